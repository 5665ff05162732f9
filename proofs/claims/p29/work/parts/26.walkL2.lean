/-! walks: the machine does what the plain functions say: written by program -/
set_option maxHeartbeats 4000000 in
set_option maxRecDepth 100000 in
theorem t_b_L_told_585 {K : Cx} {fr : Bool} {out : (Int32 × MH)} (O : Ok K yL_told.cls cL_told 12 (rmm 7 171 0 0)) (Z : Out K (some .boolean) fr (some (.int out.1)) out.2) (h : MH) (s0 : Int32) (hf : b_L_told_585 h s0 = some out) : EE K (fr, 0, 0) 585 [none, none, none, none, none, none, none, none, none, none, none, none] [.int s0] h := by
  unfold b_L_told_585 at hf
  exact E_zret (pc := 585) O Z hf ⟨(Nat.le_of_ble_eq_true rfl), (Nat.le_of_ble_eq_true rfl)⟩ dL_told_585
set_option maxHeartbeats 4000000 in
set_option maxRecDepth 100000 in
theorem t_b_L_told_584 {K : Cx} {fr : Bool} {out : (Int32 × MH)} (O : Ok K yL_told.cls cL_told 12 (rmm 7 171 0 0)) (Z : Out K (some .boolean) fr (some (.int out.1)) out.2) (h : MH) (hf : b_L_told_584 h = some out) : EE K (fr, 0, 0) 584 [none, none, none, none, none, none, none, none, none, none, none, none] [] h := by
  unfold b_L_told_584 at hf
  refine E_iconst (pc := 584) O (0 : Int32) dL_told_584 (by decide) ?_
  exact t_b_L_told_585 O Z h (0 : Int32) hf
set_option maxHeartbeats 4000000 in
set_option maxRecDepth 100000 in
theorem t_b_L_told_576 {K : Cx} {fr : Bool} {out : (Int32 × MH)} (O : Ok K yL_told.cls cL_told 12 (rmm 7 171 0 0)) (Z : Out K (some .boolean) fr (some (.int out.1)) out.2) (h : MH) (s0 : UInt64) (s1 : UInt64) (hf : b_L_told_576 h s0 s1 = some out) : EE K (fr, 0, 0) 576 [none, none, none, none, none, none, none, none, none, none, none, none] [.double s1, .double s0] h := by
  unfold b_L_told_576 at hf
  refine E_dcmp (pc := 576) O dL_told_576 ?_
  refine E_if_ne (pc := 577) O 584 dL_told_577 (by decide) hf (fun hf => ?_) (fun hf => ?_)
  · exact t_b_L_told_584 O Z h hf
  · refine E_iconst (pc := 580) O (1 : Int32) dL_told_580 (by decide) ?_
    refine E_goto (pc := 581) O 585 dL_told_581 (by decide) ?_
    exact t_b_L_told_585 O Z h (1 : Int32) hf
set_option maxHeartbeats 4000000 in
set_option maxRecDepth 100000 in
theorem t_b_L_told_424 {K : Cx} {fr : Bool} {out : (Int32 × MH)} (O : Ok K yL_told.cls cL_told 12 (rmm 7 171 0 0)) (Z : Out K (some .boolean) fr (some (.int out.1)) out.2) (rec385 : MH → Nat → Nat → Nat → Nat → Int32 → Int32 → Int32 → Option (Int32 × MH)) (hr385 : ∀ (h : MH) (x0 : Nat) (x2 : Nat) (x4 : Nat) (x5 : Nat) (x6 : Int32) (x7 : Int32) (x8 : Int32), rec385 h x0 x2 x4 x5 x6 x7 x8 = some out → EE K (fr, 0, 0) 385 [some (.ref x0), none, some (.ref x2), none, some (.ref x4), some (.ref x5), some (.int x6), some (.int x7), some (.int x8), none, none, none] [] h) (h : MH) (x0 : Nat) (x2 : Nat) (x4 : Nat) (x5 : Nat) (x6 : Int32) (x7 : Int32) (x8 : Int32) (s0 : Int32) (s1 : Int32) (hf : b_L_told_424 rec385 h x0 x2 x4 x5 x6 x7 x8 s0 s1 = some out) : EE K (fr, 0, 0) 424 [some (.ref x0), none, some (.ref x2), none, some (.ref x4), some (.ref x5), some (.int x6), some (.int x7), some (.int x8), none, none, none] [.int s1, .int s0] h := by
  unfold b_L_told_424 at hf
  refine E_icmp_eq (pc := 424) O 429 dL_told_424 (by decide) hf (fun hf => ?_) (fun hf => ?_)
  · refine E_iinc (pc := 429) O (1 : Int32) [some (.ref x0), none, some (.ref x2), none, some (.ref x4), some (.ref x5), some (.int x6), some (.int x7), some (.int (x8 + (1 : Int32))), none, none, none] dL_told_429 rfl (by decide) rfl (by decide) rfl ?_
    refine E_goto (pc := 432) O 385 dL_told_432 (by decide) ?_
    exact hr385 h x0 x2 x4 x5 x6 x7 (x8 + (1 : Int32)) hf
  · refine E_iconst (pc := 427) O (0 : Int32) dL_told_427 (by decide) ?_
    exact E_zret (pc := 428) O Z hf ⟨(Nat.le_of_ble_eq_true rfl), (Nat.le_of_ble_eq_true rfl)⟩ dL_told_428
set_option maxHeartbeats 4000000 in
set_option maxRecDepth 100000 in
theorem t_b_L_told_385 {K : Cx} {fr : Bool} {out : (Int32 × MH)} (O : Ok K yL_told.cls cL_told 12 (rmm 7 171 0 0)) (Z : Out K (some .boolean) fr (some (.int out.1)) out.2) (rec385 : MH → Nat → Nat → Nat → Nat → Int32 → Int32 → Int32 → Option (Int32 × MH)) (hr385 : ∀ (h : MH) (x0 : Nat) (x2 : Nat) (x4 : Nat) (x5 : Nat) (x6 : Int32) (x7 : Int32) (x8 : Int32), rec385 h x0 x2 x4 x5 x6 x7 x8 = some out → EE K (fr, 0, 0) 385 [some (.ref x0), none, some (.ref x2), none, some (.ref x4), some (.ref x5), some (.int x6), some (.int x7), some (.int x8), none, none, none] [] h) (h : MH) (x0 : Nat) (x2 : Nat) (x4 : Nat) (x5 : Nat) (x6 : Int32) (x7 : Int32) (x8 : Int32) (hf : b_L_told_385 rec385 h x0 x2 x4 x5 x6 x7 x8 = some out) : EE K (fr, 0, 0) 385 [some (.ref x0), none, some (.ref x2), none, some (.ref x4), some (.ref x5), some (.int x6), some (.int x7), some (.int x8), none, none, none] [] h := by
  unfold b_L_told_385 at hf
  refine E_iload (pc := 385) O dL_told_385 rfl ?_
  refine E_bipush (pc := 387) O (64 : Int32) dL_told_387 (by decide) ?_
  refine E_icmp_ge (pc := 389) O 435 dL_told_389 (by decide) hf (fun hf => ?_) (fun hf => ?_)
  · refine E_aload (pc := 435) O dL_told_435 rfl ?_
    refine E_iconst (pc := 437) O (2 : Int32) dL_told_437 (by decide) ?_
    refine E_iaload (pc := 438) O dL_told_438 hf (fun v1 hf => ?_)
    refine E_aload (pc := 439) O dL_told_439 rfl ?_
    refine E_iconst (pc := 441) O (0 : Int32) dL_told_441 (by decide) ?_
    refine E_iaload (pc := 442) O dL_told_442 hf (fun v2 hf => ?_)
    refine E_imul (pc := 443) O dL_told_443 ?_
    obtain ⟨v3, ev3, hf⟩ := ob hf
    have ev3 := os ev3
    rw [ev3]
    refine E_istore (pc := 444) O [some (.ref x0), none, some (.ref x2), none, some (.ref x4), some (.ref x5), some (.int x6), some (.int x7), some (.int v3), none, none, none] dL_told_444 (by decide) rfl rfl ?_
    refine E_aload_n (pc := 446) O 0 dL_told_446 rfl rfl ?_
    refine E_iconst (pc := 447) O (0 : Int32) dL_told_447 (by decide) ?_
    refine E_callV_i (pc := 448) (S := []) O [.int (0 : Int32)] CV_RailSequenceLaw_46 rfl (fun r e => t_X3_count e) dL_told_448 hf rfl ⟨(Nat.le_of_ble_eq_true rfl), (Nat.le_of_ble_eq_true rfl)⟩ ⟨(Nat.le_of_ble_eq_true rfl), (Nat.le_of_ble_eq_true rfl)⟩ (Nat.le_of_ble_eq_true rfl) (fun p4 hf => ?_)
    refine E_aload (pc := 451) O dL_told_451 rfl ?_
    refine E_iconst (pc := 453) O (0 : Int32) dL_told_453 (by decide) ?_
    refine E_iaload (pc := 454) O dL_told_454 hf (fun v5 hf => ?_)
    refine E_icmp_ne (pc := 455) O 584 dL_told_455 (by decide) hf (fun hf => ?_) (fun hf => ?_)
    · exact E_sub (L' := [none, none, none, none, none, none, none, none, none, none, none, none]) True.intro (t_b_L_told_584 O Z p4.2 hf)
    · refine E_aload_n (pc := 458) O 0 dL_told_458 rfl rfl ?_
      refine E_iconst (pc := 459) O (1 : Int32) dL_told_459 (by decide) ?_
      refine E_callV_i (pc := 460) (S := []) O [.int (1 : Int32)] CV_RailSequenceLaw_46 rfl (fun r e => t_X3_count e) dL_told_460 hf rfl ⟨(Nat.le_of_ble_eq_true rfl), (Nat.le_of_ble_eq_true rfl)⟩ ⟨(Nat.le_of_ble_eq_true rfl), (Nat.le_of_ble_eq_true rfl)⟩ (Nat.le_of_ble_eq_true rfl) (fun p6 hf => ?_)
      refine E_aload (pc := 463) O dL_told_463 rfl ?_
      refine E_iconst (pc := 465) O (2 : Int32) dL_told_465 (by decide) ?_
      refine E_iaload (pc := 466) O dL_told_466 hf (fun v7 hf => ?_)
      refine E_icmp_ne (pc := 467) O 584 dL_told_467 (by decide) hf (fun hf => ?_) (fun hf => ?_)
      · exact E_sub (L' := [none, none, none, none, none, none, none, none, none, none, none, none]) True.intro (t_b_L_told_584 O Z p6.2 hf)
      · refine E_aload_n (pc := 470) O 0 dL_told_470 rfl rfl ?_
        refine E_iconst (pc := 471) O (2 : Int32) dL_told_471 (by decide) ?_
        refine E_callV_i (pc := 472) (S := []) O [.int (2 : Int32)] CV_RailSequenceLaw_46 rfl (fun r e => t_X3_count e) dL_told_472 hf rfl ⟨(Nat.le_of_ble_eq_true rfl), (Nat.le_of_ble_eq_true rfl)⟩ ⟨(Nat.le_of_ble_eq_true rfl), (Nat.le_of_ble_eq_true rfl)⟩ (Nat.le_of_ble_eq_true rfl) (fun p8 hf => ?_)
        refine E_aload (pc := 475) O dL_told_475 rfl ?_
        refine E_iconst (pc := 477) O (1 : Int32) dL_told_477 (by decide) ?_
        refine E_iaload (pc := 478) O dL_told_478 hf (fun v9 hf => ?_)
        refine E_icmp_ne (pc := 479) O 584 dL_told_479 (by decide) hf (fun hf => ?_) (fun hf => ?_)
        · exact E_sub (L' := [none, none, none, none, none, none, none, none, none, none, none, none]) True.intro (t_b_L_told_584 O Z p8.2 hf)
        · refine E_aload_n (pc := 482) O 0 dL_told_482 rfl rfl ?_
          refine E_iconst (pc := 483) O (3 : Int32) dL_told_483 (by decide) ?_
          refine E_callV_i (pc := 484) (S := []) O [.int (3 : Int32)] CV_RailSequenceLaw_46 rfl (fun r e => t_X3_count e) dL_told_484 hf rfl ⟨(Nat.le_of_ble_eq_true rfl), (Nat.le_of_ble_eq_true rfl)⟩ ⟨(Nat.le_of_ble_eq_true rfl), (Nat.le_of_ble_eq_true rfl)⟩ (Nat.le_of_ble_eq_true rfl) (fun p10 hf => ?_)
          refine E_iconst (pc := 487) O (1 : Int32) dL_told_487 (by decide) ?_
          refine E_iconst (pc := 488) O (1 : Int32) dL_told_488 (by decide) ?_
          refine E_aload_n (pc := 489) O 2 dL_told_489 rfl rfl ?_
          refine E_aload (pc := 490) O dL_told_490 rfl ?_
          refine E_callS_iP (pc := 492) (S := [.int p10.1]) O [.int (1 : Int32), .int (1 : Int32), .ref x2, .ref x5] CS_RailSequenceLaw_49 (fun r e => t_L_mask e) dL_told_492 hf rfl ⟨(Nat.le_of_ble_eq_true rfl), (Nat.le_of_ble_eq_true rfl)⟩ ⟨(Nat.le_of_ble_eq_true rfl), (Nat.le_of_ble_eq_true rfl)⟩ (Nat.le_of_ble_eq_true rfl) (fun v11 hf => ?_)
          refine E_icmp_ne (pc := 495) O 584 dL_told_495 (by decide) hf (fun hf => ?_) (fun hf => ?_)
          · exact E_sub (L' := [none, none, none, none, none, none, none, none, none, none, none, none]) True.intro (t_b_L_told_584 O Z p10.2 hf)
          · refine E_aload_n (pc := 498) O 0 dL_told_498 rfl rfl ?_
            refine E_iconst (pc := 499) O (4 : Int32) dL_told_499 (by decide) ?_
            refine E_callV_i (pc := 500) (S := []) O [.int (4 : Int32)] CV_RailSequenceLaw_46 rfl (fun r e => t_X3_count e) dL_told_500 hf rfl ⟨(Nat.le_of_ble_eq_true rfl), (Nat.le_of_ble_eq_true rfl)⟩ ⟨(Nat.le_of_ble_eq_true rfl), (Nat.le_of_ble_eq_true rfl)⟩ (Nat.le_of_ble_eq_true rfl) (fun p12 hf => ?_)
            refine E_iconst (pc := 503) O (2 : Int32) dL_told_503 (by decide) ?_
            refine E_iconst (pc := 504) O (3 : Int32) dL_told_504 (by decide) ?_
            refine E_aload_n (pc := 505) O 2 dL_told_505 rfl rfl ?_
            refine E_aload (pc := 506) O dL_told_506 rfl ?_
            refine E_callS_iP (pc := 508) (S := [.int p12.1]) O [.int (2 : Int32), .int (3 : Int32), .ref x2, .ref x5] CS_RailSequenceLaw_49 (fun r e => t_L_mask e) dL_told_508 hf rfl ⟨(Nat.le_of_ble_eq_true rfl), (Nat.le_of_ble_eq_true rfl)⟩ ⟨(Nat.le_of_ble_eq_true rfl), (Nat.le_of_ble_eq_true rfl)⟩ (Nat.le_of_ble_eq_true rfl) (fun v13 hf => ?_)
            refine E_icmp_ne (pc := 511) O 584 dL_told_511 (by decide) hf (fun hf => ?_) (fun hf => ?_)
            · exact E_sub (L' := [none, none, none, none, none, none, none, none, none, none, none, none]) True.intro (t_b_L_told_584 O Z p12.2 hf)
            · refine E_aload_n (pc := 514) O 0 dL_told_514 rfl rfl ?_
              refine E_iconst (pc := 515) O (5 : Int32) dL_told_515 (by decide) ?_
              refine E_callV_i (pc := 516) (S := []) O [.int (5 : Int32)] CV_RailSequenceLaw_46 rfl (fun r e => t_X3_count e) dL_told_516 hf rfl ⟨(Nat.le_of_ble_eq_true rfl), (Nat.le_of_ble_eq_true rfl)⟩ ⟨(Nat.le_of_ble_eq_true rfl), (Nat.le_of_ble_eq_true rfl)⟩ (Nat.le_of_ble_eq_true rfl) (fun p14 hf => ?_)
              refine E_iconst (pc := 519) O (2 : Int32) dL_told_519 (by decide) ?_
              refine E_iconst (pc := 520) O (5 : Int32) dL_told_520 (by decide) ?_
              refine E_aload_n (pc := 521) O 2 dL_told_521 rfl rfl ?_
              refine E_aload (pc := 522) O dL_told_522 rfl ?_
              refine E_callS_iP (pc := 524) (S := [.int p14.1]) O [.int (2 : Int32), .int (5 : Int32), .ref x2, .ref x5] CS_RailSequenceLaw_49 (fun r e => t_L_mask e) dL_told_524 hf rfl ⟨(Nat.le_of_ble_eq_true rfl), (Nat.le_of_ble_eq_true rfl)⟩ ⟨(Nat.le_of_ble_eq_true rfl), (Nat.le_of_ble_eq_true rfl)⟩ (Nat.le_of_ble_eq_true rfl) (fun v15 hf => ?_)
              refine E_icmp_ne (pc := 527) O 584 dL_told_527 (by decide) hf (fun hf => ?_) (fun hf => ?_)
              · exact E_sub (L' := [none, none, none, none, none, none, none, none, none, none, none, none]) True.intro (t_b_L_told_584 O Z p14.2 hf)
              · refine E_aload_n (pc := 530) O 0 dL_told_530 rfl rfl ?_
                refine E_bipush (pc := 531) O (6 : Int32) dL_told_531 (by decide) ?_
                refine E_callV_i (pc := 533) (S := []) O [.int (6 : Int32)] CV_RailSequenceLaw_46 rfl (fun r e => t_X3_count e) dL_told_533 hf rfl ⟨(Nat.le_of_ble_eq_true rfl), (Nat.le_of_ble_eq_true rfl)⟩ ⟨(Nat.le_of_ble_eq_true rfl), (Nat.le_of_ble_eq_true rfl)⟩ (Nat.le_of_ble_eq_true rfl) (fun p16 hf => ?_)
                refine E_aload (pc := 536) O dL_told_536 rfl ?_
                refine E_iconst (pc := 538) O (3 : Int32) dL_told_538 (by decide) ?_
                refine E_iaload (pc := 539) O dL_told_539 hf (fun v17 hf => ?_)
                refine E_icmp_ne (pc := 540) O 584 dL_told_540 (by decide) hf (fun hf => ?_) (fun hf => ?_)
                · exact E_sub (L' := [none, none, none, none, none, none, none, none, none, none, none, none]) True.intro (t_b_L_told_584 O Z p16.2 hf)
                · refine E_aload_n (pc := 543) O 0 dL_told_543 rfl rfl ?_
                  refine E_bipush (pc := 544) O (7 : Int32) dL_told_544 (by decide) ?_
                  refine E_callV_i (pc := 546) (S := []) O [.int (7 : Int32)] CV_RailSequenceLaw_46 rfl (fun r e => t_X3_count e) dL_told_546 hf rfl ⟨(Nat.le_of_ble_eq_true rfl), (Nat.le_of_ble_eq_true rfl)⟩ ⟨(Nat.le_of_ble_eq_true rfl), (Nat.le_of_ble_eq_true rfl)⟩ (Nat.le_of_ble_eq_true rfl) (fun p18 hf => ?_)
                  refine E_iload (pc := 549) O dL_told_549 rfl ?_
                  refine E_icmp_ne (pc := 551) O 584 dL_told_551 (by decide) hf (fun hf => ?_) (fun hf => ?_)
                  · exact E_sub (L' := [none, none, none, none, none, none, none, none, none, none, none, none]) True.intro (t_b_L_told_584 O Z p18.2 hf)
                  · refine E_aload_n (pc := 554) O 0 dL_told_554 rfl rfl ?_
                    refine E_callV_dP (pc := 555) (S := []) O [] CV_RailSequenceLaw_53 rfl (fun r e => t_X3_goodShare e) dL_told_555 hf rfl ⟨(Nat.le_of_ble_eq_true rfl), (Nat.le_of_ble_eq_true rfl)⟩ ⟨(Nat.le_of_ble_eq_true rfl), (Nat.le_of_ble_eq_true rfl)⟩ (Nat.le_of_ble_eq_true rfl) (fun v19 hf => ?_)
                    refine E_iload (pc := 558) O dL_told_558 rfl ?_
                    refine E_if_ne (pc := 560) O 567 dL_told_560 (by decide) hf (fun hf => ?_) (fun hf => ?_)
                    · refine E_dconst1 (pc := 567) O dL_told_567 ?_
                      refine E_iload (pc := 568) O dL_told_568 rfl ?_
                      refine E_i2d (pc := 570) O dL_told_570 ?_
                      refine E_dmul (pc := 571) O dL_told_571 hf (fun v20 hf => ?_)
                      refine E_iload (pc := 572) O dL_told_572 rfl ?_
                      refine E_i2d (pc := 574) O dL_told_574 ?_
                      refine E_ddiv (pc := 575) O dL_told_575 hf (fun v21 hf => ?_)
                      exact E_sub (L' := [none, none, none, none, none, none, none, none, none, none, none, none]) True.intro (t_b_L_told_576 O Z p18.2 v19 v21 hf)
                    · refine E_dconst0 (pc := 563) O dL_told_563 ?_
                      refine E_goto (pc := 564) O 576 dL_told_564 (by decide) ?_
                      exact E_sub (L' := [none, none, none, none, none, none, none, none, none, none, none, none]) True.intro (t_b_L_told_576 O Z p18.2 v19 (0 : UInt64) hf)
  · refine E_aload_n (pc := 392) O 0 dL_told_392 rfl rfl ?_
    refine E_iload (pc := 393) O dL_told_393 rfl ?_
    refine E_iconst (pc := 395) O (4 : Int32) dL_told_395 (by decide) ?_
    refine E_idiv (pc := 396) O dL_told_396 hf (fun v22 hf => ?_)
    refine E_iload (pc := 397) O dL_told_397 rfl ?_
    refine E_iconst (pc := 399) O (4 : Int32) dL_told_399 (by decide) ?_
    refine E_irem (pc := 400) O dL_told_400 hf (fun v23 hf => ?_)
    refine E_callV_i (pc := 401) (S := []) O [.int v22, .int v23] CV_RailSequenceLaw_43 rfl (fun r e => t_X3_entry e) dL_told_401 hf rfl ⟨(Nat.le_of_ble_eq_true rfl), (Nat.le_of_ble_eq_true rfl)⟩ ⟨(Nat.le_of_ble_eq_true rfl), (Nat.le_of_ble_eq_true rfl)⟩ (Nat.le_of_ble_eq_true rfl) (fun p24 hf => ?_)
    refine E_iload (pc := 404) O dL_told_404 rfl ?_
    refine E_iconst (pc := 406) O (4 : Int32) dL_told_406 (by decide) ?_
    refine E_idiv (pc := 407) O dL_told_407 hf (fun v25 hf => ?_)
    refine E_aload (pc := 408) O dL_told_408 rfl ?_
    refine E_iconst (pc := 410) O (3 : Int32) dL_told_410 (by decide) ?_
    refine E_iaload (pc := 411) O dL_told_411 hf (fun v26 hf => ?_)
    refine E_icmp_ge (pc := 412) O 423 dL_told_412 (by decide) hf (fun hf => ?_) (fun hf => ?_)
    · refine E_iconst (pc := 423) O (-1 : Int32) dL_told_423 (by decide) ?_
      exact t_b_L_told_424 O Z _ hr385 p24.2 x0 x2 x4 x5 x6 x7 x8 p24.1 (-1 : Int32) hf
    · refine E_aload (pc := 415) O dL_told_415 rfl ?_
      refine E_iload (pc := 417) O dL_told_417 rfl ?_
      refine E_iaload (pc := 419) O dL_told_419 hf (fun v27 hf => ?_)
      refine E_goto (pc := 420) O 424 dL_told_420 (by decide) ?_
      exact t_b_L_told_424 O Z _ hr385 p24.2 x0 x2 x4 x5 x6 x7 x8 p24.1 v27 hf
theorem t_f_L_told_385 {K : Cx} {fr : Bool} {out : (Int32 × MH)} (O : Ok K yL_told.cls cL_told 12 (rmm 7 171 0 0)) (Z : Out K (some .boolean) fr (some (.int out.1)) out.2) : ∀ (n : Nat) (h : MH) (x0 : Nat) (x2 : Nat) (x4 : Nat) (x5 : Nat) (x6 : Int32) (x7 : Int32) (x8 : Int32), f_L_told_385 n h x0 x2 x4 x5 x6 x7 x8 = some out → EE K (fr, 0, 0) 385 [some (.ref x0), none, some (.ref x2), none, some (.ref x4), some (.ref x5), some (.int x6), some (.int x7), some (.int x8), none, none, none] [] h := by
  intro n
  induction n with
  | zero => intro h x0 x2 x4 x5 x6 x7 x8 hf; cases hf
  | succ n ih => intro h x0 x2 x4 x5 x6 x7 x8 hf; exact t_b_L_told_385 O Z _ ih h x0 x2 x4 x5 x6 x7 x8 hf
set_option maxHeartbeats 4000000 in
set_option maxRecDepth 100000 in
theorem t_b_L_told_140 {K : Cx} {fr : Bool} {out : (Int32 × MH)} (O : Ok K yL_told.cls cL_told 12 (rmm 7 171 0 0)) (Z : Out K (some .boolean) fr (some (.int out.1)) out.2) (rec9 : MH → Nat → Nat → Nat → Nat → Nat → Nat → Int32 → Int32 → Int32 → Option (Int32 × MH)) (hr9 : ∀ (h : MH) (x0 : Nat) (x1 : Nat) (x2 : Nat) (x3 : Nat) (x4 : Nat) (x5 : Nat) (x6 : Int32) (x7 : Int32) (x8 : Int32), rec9 h x0 x1 x2 x3 x4 x5 x6 x7 x8 = some out → EE K (fr, 0, 0) 9 [some (.ref x0), some (.ref x1), some (.ref x2), some (.ref x3), some (.ref x4), some (.ref x5), some (.int x6), some (.int x7), some (.int x8), none, none, none] [] h) (rec100 : MH → Nat → Nat → Nat → Nat → Nat → Nat → Int32 → Int32 → Int32 → Int32 → Int32 → Int32 → Option (Int32 × MH)) (hr100 : ∀ (h : MH) (x0 : Nat) (x1 : Nat) (x2 : Nat) (x3 : Nat) (x4 : Nat) (x5 : Nat) (x6 : Int32) (x7 : Int32) (x8 : Int32) (x9 : Int32) (x10 : Int32) (x11 : Int32), rec100 h x0 x1 x2 x3 x4 x5 x6 x7 x8 x9 x10 x11 = some out → EE K (fr, 0, 0) 100 [some (.ref x0), some (.ref x1), some (.ref x2), some (.ref x3), some (.ref x4), some (.ref x5), some (.int x6), some (.int x7), some (.int x8), some (.int x9), some (.int x10), some (.int x11)] [] h) (h : MH) (x0 : Nat) (x1 : Nat) (x2 : Nat) (x3 : Nat) (x4 : Nat) (x5 : Nat) (x6 : Int32) (x7 : Int32) (x8 : Int32) (x9 : Int32) (x11 : Int32) (s0 : Int32) (hf : b_L_told_140 rec9 rec100 h x0 x1 x2 x3 x4 x5 x6 x7 x8 x9 x11 s0 = some out) : EE K (fr, 0, 0) 140 [some (.ref x0), some (.ref x1), some (.ref x2), some (.ref x3), some (.ref x4), some (.ref x5), some (.int x6), some (.int x7), some (.int x8), some (.int x9), none, some (.int x11)] [.int s0] h := by
  unfold b_L_told_140 at hf
  refine E_istore (pc := 140) O [some (.ref x0), some (.ref x1), some (.ref x2), some (.ref x3), some (.ref x4), some (.ref x5), some (.int x6), some (.int x7), some (.int x8), some (.int x9), some (.int s0), some (.int x11)] dL_told_140 (by decide) rfl rfl ?_
  refine E_iinc (pc := 142) O (1 : Int32) [some (.ref x0), some (.ref x1), some (.ref x2), some (.ref x3), some (.ref x4), some (.ref x5), some (.int x6), some (.int x7), some (.int x8), some (.int x9), some (.int s0), some (.int (x11 + (1 : Int32)))] dL_told_142 rfl (by decide) rfl (by decide) rfl ?_
  refine E_goto (pc := 145) O 100 dL_told_145 (by decide) ?_
  exact hr100 h x0 x1 x2 x3 x4 x5 x6 x7 x8 x9 s0 (x11 + (1 : Int32)) hf
set_option maxHeartbeats 4000000 in
set_option maxRecDepth 100000 in
theorem t_b_L_told_244 {K : Cx} {fr : Bool} {out : (Int32 × MH)} (O : Ok K yL_told.cls cL_told 12 (rmm 7 171 0 0)) (Z : Out K (some .boolean) fr (some (.int out.1)) out.2) (h : MH) (hf : b_L_told_244 h = some out) : EE K (fr, 0, 0) 244 [none, none, none, none, none, none, none, none, none, none, none, none] [] h := by
  unfold b_L_told_244 at hf
  refine E_iconst (pc := 244) O (0 : Int32) dL_told_244 (by decide) ?_
  exact E_zret (pc := 245) O Z hf ⟨(Nat.le_of_ble_eq_true rfl), (Nat.le_of_ble_eq_true rfl)⟩ dL_told_245
set_option maxHeartbeats 4000000 in
set_option maxRecDepth 100000 in
theorem t_b_L_told_297 {K : Cx} {fr : Bool} {out : (Int32 × MH)} (O : Ok K yL_told.cls cL_told 12 (rmm 7 171 0 0)) (Z : Out K (some .boolean) fr (some (.int out.1)) out.2) (h : MH) (hf : b_L_told_297 h = some out) : EE K (fr, 0, 0) 297 [none, none, none, none, none, none, none, none, none, none, none, none] [] h := by
  unfold b_L_told_297 at hf
  refine E_iconst (pc := 297) O (0 : Int32) dL_told_297 (by decide) ?_
  exact E_zret (pc := 298) O Z hf ⟨(Nat.le_of_ble_eq_true rfl), (Nat.le_of_ble_eq_true rfl)⟩ dL_told_298
set_option maxHeartbeats 4000000 in
set_option maxRecDepth 100000 in
theorem t_b_L_told_342 {K : Cx} {fr : Bool} {out : (Int32 × MH)} (O : Ok K yL_told.cls cL_told 12 (rmm 7 171 0 0)) (Z : Out K (some .boolean) fr (some (.int out.1)) out.2) (rec9 : MH → Nat → Nat → Nat → Nat → Nat → Nat → Int32 → Int32 → Int32 → Option (Int32 × MH)) (hr9 : ∀ (h : MH) (x0 : Nat) (x1 : Nat) (x2 : Nat) (x3 : Nat) (x4 : Nat) (x5 : Nat) (x6 : Int32) (x7 : Int32) (x8 : Int32), rec9 h x0 x1 x2 x3 x4 x5 x6 x7 x8 = some out → EE K (fr, 0, 0) 9 [some (.ref x0), some (.ref x1), some (.ref x2), some (.ref x3), some (.ref x4), some (.ref x5), some (.int x6), some (.int x7), some (.int x8), none, none, none] [] h) (rec342 : MH → Nat → Nat → Nat → Nat → Nat → Nat → Int32 → Int32 → Int32 → Int32 → Option (Int32 × MH)) (hr342 : ∀ (h : MH) (x0 : Nat) (x1 : Nat) (x2 : Nat) (x3 : Nat) (x4 : Nat) (x5 : Nat) (x6 : Int32) (x7 : Int32) (x8 : Int32) (x11 : Int32), rec342 h x0 x1 x2 x3 x4 x5 x6 x7 x8 x11 = some out → EE K (fr, 0, 0) 342 [some (.ref x0), some (.ref x1), some (.ref x2), some (.ref x3), some (.ref x4), some (.ref x5), some (.int x6), some (.int x7), some (.int x8), none, none, some (.int x11)] [] h) (h : MH) (x0 : Nat) (x1 : Nat) (x2 : Nat) (x3 : Nat) (x4 : Nat) (x5 : Nat) (x6 : Int32) (x7 : Int32) (x8 : Int32) (x11 : Int32) (hf : b_L_told_342 rec9 rec342 h x0 x1 x2 x3 x4 x5 x6 x7 x8 x11 = some out) : EE K (fr, 0, 0) 342 [some (.ref x0), some (.ref x1), some (.ref x2), some (.ref x3), some (.ref x4), some (.ref x5), some (.int x6), some (.int x7), some (.int x8), none, none, some (.int x11)] [] h := by
  unfold b_L_told_342 at hf
  refine E_iload (pc := 342) O dL_told_342 rfl ?_
  refine E_iconst (pc := 344) O (4 : Int32) dL_told_344 (by decide) ?_
  refine E_icmp_ge (pc := 345) O 376 dL_told_345 (by decide) hf (fun hf => ?_) (fun hf => ?_)
  · refine E_iinc (pc := 376) O (1 : Int32) [some (.ref x0), some (.ref x1), some (.ref x2), some (.ref x3), some (.ref x4), some (.ref x5), some (.int x6), some (.int x7), some (.int (x8 + (1 : Int32))), none, none, some (.int x11)] dL_told_376 rfl (by decide) rfl (by decide) rfl ?_
    refine E_goto (pc := 379) O 9 dL_told_379 (by decide) ?_
    exact E_sub (L' := [some (.ref x0), some (.ref x1), some (.ref x2), some (.ref x3), some (.ref x4), some (.ref x5), some (.int x6), some (.int x7), some (.int (x8 + (1 : Int32))), none, none, none]) (And.intro rfl (And.intro rfl (And.intro rfl (And.intro rfl (And.intro rfl (And.intro rfl (And.intro rfl (And.intro rfl (And.intro rfl True.intro))))))))) (hr9 h x0 x1 x2 x3 x4 x5 x6 x7 (x8 + (1 : Int32)) hf)
  · refine E_aload_n (pc := 348) O 0 dL_told_348 rfl rfl ?_
    refine E_iload (pc := 349) O dL_told_349 rfl ?_
    refine E_iload (pc := 351) O dL_told_351 rfl ?_
    refine E_callV_i (pc := 353) (S := []) O [.int x8, .int x11] CV_RailSequenceLaw_40 rfl (fun r e => t_X3_account e) dL_told_353 hf rfl ⟨(Nat.le_of_ble_eq_true rfl), (Nat.le_of_ble_eq_true rfl)⟩ ⟨(Nat.le_of_ble_eq_true rfl), (Nat.le_of_ble_eq_true rfl)⟩ (Nat.le_of_ble_eq_true rfl) (fun p28 hf => ?_)
    refine E_aload_n (pc := 356) O 3 dL_told_356 rfl rfl ?_
    refine E_iconst (pc := 357) O (4 : Int32) dL_told_357 (by decide) ?_
    refine E_iload (pc := 358) O dL_told_358 rfl ?_
    refine E_imul (pc := 360) O dL_told_360 ?_
    refine E_iload (pc := 361) O dL_told_361 rfl ?_
    refine E_iadd (pc := 363) O dL_told_363 ?_
    refine E_iaload (pc := 364) O dL_told_364 hf (fun v29 hf => ?_)
    refine E_icmp_eq (pc := 365) O 370 dL_told_365 (by decide) hf (fun hf => ?_) (fun hf => ?_)
    · refine E_iinc (pc := 370) O (1 : Int32) [some (.ref x0), some (.ref x1), some (.ref x2), some (.ref x3), some (.ref x4), some (.ref x5), some (.int x6), some (.int x7), some (.int x8), none, none, some (.int (x11 + (1 : Int32)))] dL_told_370 rfl (by decide) rfl (by decide) rfl ?_
      refine E_goto (pc := 373) O 342 dL_told_373 (by decide) ?_
      exact hr342 p28.2 x0 x1 x2 x3 x4 x5 x6 x7 x8 (x11 + (1 : Int32)) hf
    · refine E_iconst (pc := 368) O (0 : Int32) dL_told_368 (by decide) ?_
      exact E_zret (pc := 369) O Z hf ⟨(Nat.le_of_ble_eq_true rfl), (Nat.le_of_ble_eq_true rfl)⟩ dL_told_369
theorem t_f_L_told_342 {K : Cx} {fr : Bool} {out : (Int32 × MH)} (O : Ok K yL_told.cls cL_told 12 (rmm 7 171 0 0)) (Z : Out K (some .boolean) fr (some (.int out.1)) out.2) (rec9 : MH → Nat → Nat → Nat → Nat → Nat → Nat → Int32 → Int32 → Int32 → Option (Int32 × MH)) (hr9 : ∀ (h : MH) (x0 : Nat) (x1 : Nat) (x2 : Nat) (x3 : Nat) (x4 : Nat) (x5 : Nat) (x6 : Int32) (x7 : Int32) (x8 : Int32), rec9 h x0 x1 x2 x3 x4 x5 x6 x7 x8 = some out → EE K (fr, 0, 0) 9 [some (.ref x0), some (.ref x1), some (.ref x2), some (.ref x3), some (.ref x4), some (.ref x5), some (.int x6), some (.int x7), some (.int x8), none, none, none] [] h) : ∀ (n : Nat) (h : MH) (x0 : Nat) (x1 : Nat) (x2 : Nat) (x3 : Nat) (x4 : Nat) (x5 : Nat) (x6 : Int32) (x7 : Int32) (x8 : Int32) (x11 : Int32), f_L_told_342 rec9 n h x0 x1 x2 x3 x4 x5 x6 x7 x8 x11 = some out → EE K (fr, 0, 0) 342 [some (.ref x0), some (.ref x1), some (.ref x2), some (.ref x3), some (.ref x4), some (.ref x5), some (.int x6), some (.int x7), some (.int x8), none, none, some (.int x11)] [] h := by
  intro n
  induction n with
  | zero => intro h x0 x1 x2 x3 x4 x5 x6 x7 x8 x11 hf; cases hf
  | succ n ih => intro h x0 x1 x2 x3 x4 x5 x6 x7 x8 x11 hf; exact t_b_L_told_342 O Z _ hr9 _ ih h x0 x1 x2 x3 x4 x5 x6 x7 x8 x11 hf
set_option maxHeartbeats 4000000 in
set_option maxRecDepth 100000 in
theorem t_b_L_told_303 {K : Cx} {fr : Bool} {out : (Int32 × MH)} (O : Ok K yL_told.cls cL_told 12 (rmm 7 171 0 0)) (Z : Out K (some .boolean) fr (some (.int out.1)) out.2) (rec9 : MH → Nat → Nat → Nat → Nat → Nat → Nat → Int32 → Int32 → Int32 → Option (Int32 × MH)) (hr9 : ∀ (h : MH) (x0 : Nat) (x1 : Nat) (x2 : Nat) (x3 : Nat) (x4 : Nat) (x5 : Nat) (x6 : Int32) (x7 : Int32) (x8 : Int32), rec9 h x0 x1 x2 x3 x4 x5 x6 x7 x8 = some out → EE K (fr, 0, 0) 9 [some (.ref x0), some (.ref x1), some (.ref x2), some (.ref x3), some (.ref x4), some (.ref x5), some (.int x6), some (.int x7), some (.int x8), none, none, none] [] h) (rec303 : MH → Nat → Nat → Nat → Nat → Nat → Nat → Int32 → Int32 → Int32 → Int32 → Int32 → Option (Int32 × MH)) (hr303 : ∀ (h : MH) (x0 : Nat) (x1 : Nat) (x2 : Nat) (x3 : Nat) (x4 : Nat) (x5 : Nat) (x6 : Int32) (x7 : Int32) (x8 : Int32) (x9 : Int32) (x11 : Int32), rec303 h x0 x1 x2 x3 x4 x5 x6 x7 x8 x9 x11 = some out → EE K (fr, 0, 0) 303 [some (.ref x0), some (.ref x1), some (.ref x2), some (.ref x3), some (.ref x4), some (.ref x5), some (.int x6), some (.int x7), some (.int x8), some (.int x9), none, some (.int x11)] [] h) (h : MH) (x0 : Nat) (x1 : Nat) (x2 : Nat) (x3 : Nat) (x4 : Nat) (x5 : Nat) (x6 : Int32) (x7 : Int32) (x8 : Int32) (x9 : Int32) (x11 : Int32) (hf : b_L_told_303 rec9 rec303 h x0 x1 x2 x3 x4 x5 x6 x7 x8 x9 x11 = some out) : EE K (fr, 0, 0) 303 [some (.ref x0), some (.ref x1), some (.ref x2), some (.ref x3), some (.ref x4), some (.ref x5), some (.int x6), some (.int x7), some (.int x8), some (.int x9), none, some (.int x11)] [] h := by
  unfold b_L_told_303 at hf
  refine E_iload (pc := 303) O dL_told_303 rfl ?_
  refine E_bipush (pc := 305) O (18 : Int32) dL_told_305 (by decide) ?_
  refine E_icmp_ge (pc := 307) O 339 dL_told_307 (by decide) hf (fun hf => ?_) (fun hf => ?_)
  · refine E_iconst (pc := 339) O (0 : Int32) dL_told_339 (by decide) ?_
    refine E_istore (pc := 340) O [some (.ref x0), some (.ref x1), some (.ref x2), some (.ref x3), some (.ref x4), some (.ref x5), some (.int x6), some (.int x7), some (.int x8), some (.int x9), none, some (.int (0 : Int32))] dL_told_340 (by decide) rfl rfl ?_
    exact E_sub (L' := [some (.ref x0), some (.ref x1), some (.ref x2), some (.ref x3), some (.ref x4), some (.ref x5), some (.int x6), some (.int x7), some (.int x8), none, none, some (.int (0 : Int32))]) (And.intro rfl (And.intro rfl (And.intro rfl (And.intro rfl (And.intro rfl (And.intro rfl (And.intro rfl (And.intro rfl (And.intro rfl (And.intro rfl True.intro)))))))))) (t_f_L_told_342 O Z _ hr9 FU h x0 x1 x2 x3 x4 x5 x6 x7 x8 (0 : Int32) hf)
  · refine E_aload_n (pc := 310) O 0 dL_told_310 rfl rfl ?_
    refine E_iload (pc := 311) O dL_told_311 rfl ?_
    refine E_iload (pc := 313) O dL_told_313 rfl ?_
    refine E_callV_i (pc := 315) (S := []) O [.int x8, .int x11] CV_RailSequenceLaw_22 rfl (fun r e => t_X3_rail e) dL_told_315 hf rfl ⟨(Nat.le_of_ble_eq_true rfl), (Nat.le_of_ble_eq_true rfl)⟩ ⟨(Nat.le_of_ble_eq_true rfl), (Nat.le_of_ble_eq_true rfl)⟩ (Nat.le_of_ble_eq_true rfl) (fun p30 hf => ?_)
    refine E_aload_n (pc := 318) O 2 dL_told_318 rfl rfl ?_
    refine E_iload (pc := 319) O dL_told_319 rfl ?_
    refine E_iload (pc := 321) O dL_told_321 rfl ?_
    refine E_iadd (pc := 323) O dL_told_323 ?_
    refine E_bipush (pc := 324) O (9 : Int32) dL_told_324 (by decide) ?_
    refine E_isub (pc := 326) O dL_told_326 ?_
    refine E_iaload (pc := 327) O dL_told_327 hf (fun v31 hf => ?_)
    refine E_icmp_eq (pc := 328) O 333 dL_told_328 (by decide) hf (fun hf => ?_) (fun hf => ?_)
    · refine E_iinc (pc := 333) O (1 : Int32) [some (.ref x0), some (.ref x1), some (.ref x2), some (.ref x3), some (.ref x4), some (.ref x5), some (.int x6), some (.int x7), some (.int x8), some (.int x9), none, some (.int (x11 + (1 : Int32)))] dL_told_333 rfl (by decide) rfl (by decide) rfl ?_
      refine E_goto (pc := 336) O 303 dL_told_336 (by decide) ?_
      exact hr303 p30.2 x0 x1 x2 x3 x4 x5 x6 x7 x8 x9 (x11 + (1 : Int32)) hf
    · refine E_iconst (pc := 331) O (0 : Int32) dL_told_331 (by decide) ?_
      exact E_zret (pc := 332) O Z hf ⟨(Nat.le_of_ble_eq_true rfl), (Nat.le_of_ble_eq_true rfl)⟩ dL_told_332
theorem t_f_L_told_303 {K : Cx} {fr : Bool} {out : (Int32 × MH)} (O : Ok K yL_told.cls cL_told 12 (rmm 7 171 0 0)) (Z : Out K (some .boolean) fr (some (.int out.1)) out.2) (rec9 : MH → Nat → Nat → Nat → Nat → Nat → Nat → Int32 → Int32 → Int32 → Option (Int32 × MH)) (hr9 : ∀ (h : MH) (x0 : Nat) (x1 : Nat) (x2 : Nat) (x3 : Nat) (x4 : Nat) (x5 : Nat) (x6 : Int32) (x7 : Int32) (x8 : Int32), rec9 h x0 x1 x2 x3 x4 x5 x6 x7 x8 = some out → EE K (fr, 0, 0) 9 [some (.ref x0), some (.ref x1), some (.ref x2), some (.ref x3), some (.ref x4), some (.ref x5), some (.int x6), some (.int x7), some (.int x8), none, none, none] [] h) : ∀ (n : Nat) (h : MH) (x0 : Nat) (x1 : Nat) (x2 : Nat) (x3 : Nat) (x4 : Nat) (x5 : Nat) (x6 : Int32) (x7 : Int32) (x8 : Int32) (x9 : Int32) (x11 : Int32), f_L_told_303 rec9 n h x0 x1 x2 x3 x4 x5 x6 x7 x8 x9 x11 = some out → EE K (fr, 0, 0) 303 [some (.ref x0), some (.ref x1), some (.ref x2), some (.ref x3), some (.ref x4), some (.ref x5), some (.int x6), some (.int x7), some (.int x8), some (.int x9), none, some (.int x11)] [] h := by
  intro n
  induction n with
  | zero => intro h x0 x1 x2 x3 x4 x5 x6 x7 x8 x9 x11 hf; cases hf
  | succ n ih => intro h x0 x1 x2 x3 x4 x5 x6 x7 x8 x9 x11 hf; exact t_b_L_told_303 O Z _ hr9 _ ih h x0 x1 x2 x3 x4 x5 x6 x7 x8 x9 x11 hf
set_option maxHeartbeats 4000000 in
set_option maxRecDepth 100000 in
theorem t_b_L_told_213 {K : Cx} {fr : Bool} {out : (Int32 × MH)} (O : Ok K yL_told.cls cL_told 12 (rmm 7 171 0 0)) (Z : Out K (some .boolean) fr (some (.int out.1)) out.2) (rec9 : MH → Nat → Nat → Nat → Nat → Nat → Nat → Int32 → Int32 → Int32 → Option (Int32 × MH)) (hr9 : ∀ (h : MH) (x0 : Nat) (x1 : Nat) (x2 : Nat) (x3 : Nat) (x4 : Nat) (x5 : Nat) (x6 : Int32) (x7 : Int32) (x8 : Int32), rec9 h x0 x1 x2 x3 x4 x5 x6 x7 x8 = some out → EE K (fr, 0, 0) 9 [some (.ref x0), some (.ref x1), some (.ref x2), some (.ref x3), some (.ref x4), some (.ref x5), some (.int x6), some (.int x7), some (.int x8), none, none, none] [] h) (h : MH) (x0 : Nat) (x1 : Nat) (x2 : Nat) (x3 : Nat) (x4 : Nat) (x5 : Nat) (x6 : Int32) (x7 : Int32) (x8 : Int32) (x9 : Int32) (x10 : Int32) (s0 : Int32) (s1 : Int32) (hf : b_L_told_213 rec9 h x0 x1 x2 x3 x4 x5 x6 x7 x8 x9 x10 s0 s1 = some out) : EE K (fr, 0, 0) 213 [some (.ref x0), some (.ref x1), some (.ref x2), some (.ref x3), some (.ref x4), some (.ref x5), some (.int x6), some (.int x7), some (.int x8), some (.int x9), some (.int x10), none] [.int s1, .int s0] h := by
  unfold b_L_told_213 at hf
  refine E_icmp_ne (pc := 213) O 244 dL_told_213 (by decide) hf (fun hf => ?_) (fun hf => ?_)
  · exact E_sub (L' := [none, none, none, none, none, none, none, none, none, none, none, none]) True.intro (t_b_L_told_244 O Z h hf)
  · refine E_aload_n (pc := 216) O 0 dL_told_216 rfl rfl ?_
    refine E_iload (pc := 217) O dL_told_217 rfl ?_
    refine E_bipush (pc := 219) O (18 : Int32) dL_told_219 (by decide) ?_
    refine E_callV_i (pc := 221) (S := []) O [.int x8, .int (18 : Int32)] CV_RailSequenceLaw_22 rfl (fun r e => t_X3_rail e) dL_told_221 hf rfl ⟨(Nat.le_of_ble_eq_true rfl), (Nat.le_of_ble_eq_true rfl)⟩ ⟨(Nat.le_of_ble_eq_true rfl), (Nat.le_of_ble_eq_true rfl)⟩ (Nat.le_of_ble_eq_true rfl) (fun p32 hf => ?_)
    refine E_iload (pc := 224) O dL_told_224 rfl ?_
    refine E_icmp_ne (pc := 226) O 244 dL_told_226 (by decide) hf (fun hf => ?_) (fun hf => ?_)
    · exact E_sub (L' := [none, none, none, none, none, none, none, none, none, none, none, none]) True.intro (t_b_L_told_244 O Z p32.2 hf)
    · refine E_aload_n (pc := 229) O 0 dL_told_229 rfl rfl ?_
      refine E_iload (pc := 230) O dL_told_230 rfl ?_
      refine E_callV_i (pc := 232) (S := []) O [.int x8] CV_RailSequenceLaw_32 rfl (fun r e => t_X3_leastPatience e) dL_told_232 hf rfl ⟨(Nat.le_of_ble_eq_true rfl), (Nat.le_of_ble_eq_true rfl)⟩ ⟨(Nat.le_of_ble_eq_true rfl), (Nat.le_of_ble_eq_true rfl)⟩ (Nat.le_of_ble_eq_true rfl) (fun p33 hf => ?_)
      refine E_iload (pc := 235) O dL_told_235 rfl ?_
      refine E_aload_n (pc := 237) O 1 dL_told_237 rfl rfl ?_
      refine E_callS_iP (pc := 238) (S := [.int p33.1]) O [.int x8, .ref x1] CS_RailSequenceLaw_36 (fun r e => t_L_patience e) dL_told_238 hf rfl ⟨(Nat.le_of_ble_eq_true rfl), (Nat.le_of_ble_eq_true rfl)⟩ ⟨(Nat.le_of_ble_eq_true rfl), (Nat.le_of_ble_eq_true rfl)⟩ (Nat.le_of_ble_eq_true rfl) (fun v34 hf => ?_)
      refine E_icmp_eq (pc := 241) O 246 dL_told_241 (by decide) hf (fun hf => ?_) (fun hf => ?_)
      · refine E_aload_n (pc := 246) O 0 dL_told_246 rfl rfl ?_
        refine E_iload (pc := 247) O dL_told_247 rfl ?_
        refine E_bipush (pc := 249) O (9 : Int32) dL_told_249 (by decide) ?_
        refine E_callV_i (pc := 251) (S := []) O [.int x8, .int (9 : Int32)] CV_RailSequenceLaw_22 rfl (fun r e => t_X3_rail e) dL_told_251 hf rfl ⟨(Nat.le_of_ble_eq_true rfl), (Nat.le_of_ble_eq_true rfl)⟩ ⟨(Nat.le_of_ble_eq_true rfl), (Nat.le_of_ble_eq_true rfl)⟩ (Nat.le_of_ble_eq_true rfl) (fun p35 hf => ?_)
        refine E_aload_n (pc := 254) O 2 dL_told_254 rfl rfl ?_
        refine E_iload (pc := 255) O dL_told_255 rfl ?_
        refine E_iconst (pc := 257) O (1 : Int32) dL_told_257 (by decide) ?_
        refine E_iadd (pc := 258) O dL_told_258 ?_
        refine E_iaload (pc := 259) O dL_told_259 hf (fun v36 hf => ?_)
        refine E_icmp_ne (pc := 260) O 297 dL_told_260 (by decide) hf (fun hf => ?_) (fun hf => ?_)
        · exact E_sub (L' := [none, none, none, none, none, none, none, none, none, none, none, none]) True.intro (t_b_L_told_297 O Z p35.2 hf)
        · refine E_aload_n (pc := 263) O 0 dL_told_263 rfl rfl ?_
          refine E_iload (pc := 264) O dL_told_264 rfl ?_
          refine E_bipush (pc := 266) O (10 : Int32) dL_told_266 (by decide) ?_
          refine E_callV_i (pc := 268) (S := []) O [.int x8, .int (10 : Int32)] CV_RailSequenceLaw_22 rfl (fun r e => t_X3_rail e) dL_told_268 hf rfl ⟨(Nat.le_of_ble_eq_true rfl), (Nat.le_of_ble_eq_true rfl)⟩ ⟨(Nat.le_of_ble_eq_true rfl), (Nat.le_of_ble_eq_true rfl)⟩ (Nat.le_of_ble_eq_true rfl) (fun p37 hf => ?_)
          refine E_aload_n (pc := 271) O 2 dL_told_271 rfl rfl ?_
          refine E_iload (pc := 272) O dL_told_272 rfl ?_
          refine E_iconst (pc := 274) O (2 : Int32) dL_told_274 (by decide) ?_
          refine E_iadd (pc := 275) O dL_told_275 ?_
          refine E_iaload (pc := 276) O dL_told_276 hf (fun v38 hf => ?_)
          refine E_icmp_ne (pc := 277) O 297 dL_told_277 (by decide) hf (fun hf => ?_) (fun hf => ?_)
          · exact E_sub (L' := [none, none, none, none, none, none, none, none, none, none, none, none]) True.intro (t_b_L_told_297 O Z p37.2 hf)
          · refine E_aload_n (pc := 280) O 0 dL_told_280 rfl rfl ?_
            refine E_iload (pc := 281) O dL_told_281 rfl ?_
            refine E_bipush (pc := 283) O (11 : Int32) dL_told_283 (by decide) ?_
            refine E_callV_i (pc := 285) (S := []) O [.int x8, .int (11 : Int32)] CV_RailSequenceLaw_22 rfl (fun r e => t_X3_rail e) dL_told_285 hf rfl ⟨(Nat.le_of_ble_eq_true rfl), (Nat.le_of_ble_eq_true rfl)⟩ ⟨(Nat.le_of_ble_eq_true rfl), (Nat.le_of_ble_eq_true rfl)⟩ (Nat.le_of_ble_eq_true rfl) (fun p39 hf => ?_)
            refine E_aload_n (pc := 288) O 2 dL_told_288 rfl rfl ?_
            refine E_iload (pc := 289) O dL_told_289 rfl ?_
            refine E_iconst (pc := 291) O (3 : Int32) dL_told_291 (by decide) ?_
            refine E_iadd (pc := 292) O dL_told_292 ?_
            refine E_iaload (pc := 293) O dL_told_293 hf (fun v40 hf => ?_)
            refine E_icmp_eq (pc := 294) O 299 dL_told_294 (by decide) hf (fun hf => ?_) (fun hf => ?_)
            · refine E_bipush (pc := 299) O (13 : Int32) dL_told_299 (by decide) ?_
              refine E_istore (pc := 301) O [some (.ref x0), some (.ref x1), some (.ref x2), some (.ref x3), some (.ref x4), some (.ref x5), some (.int x6), some (.int x7), some (.int x8), some (.int x9), some (.int x10), some (.int (13 : Int32))] dL_told_301 (by decide) rfl rfl ?_
              exact E_sub (L' := [some (.ref x0), some (.ref x1), some (.ref x2), some (.ref x3), some (.ref x4), some (.ref x5), some (.int x6), some (.int x7), some (.int x8), some (.int x9), none, some (.int (13 : Int32))]) (And.intro rfl (And.intro rfl (And.intro rfl (And.intro rfl (And.intro rfl (And.intro rfl (And.intro rfl (And.intro rfl (And.intro rfl (And.intro rfl (And.intro rfl True.intro))))))))))) (t_f_L_told_303 O Z _ hr9 FU p39.2 x0 x1 x2 x3 x4 x5 x6 x7 x8 x9 (13 : Int32) hf)
            · exact E_sub (L' := [none, none, none, none, none, none, none, none, none, none, none, none]) True.intro (t_b_L_told_297 O Z p39.2 hf)
      · exact E_sub (L' := [none, none, none, none, none, none, none, none, none, none, none, none]) True.intro (t_b_L_told_244 O Z p33.2 hf)
set_option maxHeartbeats 4000000 in
set_option maxRecDepth 100000 in
theorem t_b_L_told_148 {K : Cx} {fr : Bool} {out : (Int32 × MH)} (O : Ok K yL_told.cls cL_told 12 (rmm 7 171 0 0)) (Z : Out K (some .boolean) fr (some (.int out.1)) out.2) (rec9 : MH → Nat → Nat → Nat → Nat → Nat → Nat → Int32 → Int32 → Int32 → Option (Int32 × MH)) (hr9 : ∀ (h : MH) (x0 : Nat) (x1 : Nat) (x2 : Nat) (x3 : Nat) (x4 : Nat) (x5 : Nat) (x6 : Int32) (x7 : Int32) (x8 : Int32), rec9 h x0 x1 x2 x3 x4 x5 x6 x7 x8 = some out → EE K (fr, 0, 0) 9 [some (.ref x0), some (.ref x1), some (.ref x2), some (.ref x3), some (.ref x4), some (.ref x5), some (.int x6), some (.int x7), some (.int x8), none, none, none] [] h) (h : MH) (x0 : Nat) (x1 : Nat) (x2 : Nat) (x3 : Nat) (x4 : Nat) (x5 : Nat) (x6 : Int32) (x7 : Int32) (x8 : Int32) (x9 : Int32) (x10 : Int32) (hf : b_L_told_148 rec9 h x0 x1 x2 x3 x4 x5 x6 x7 x8 x9 x10 = some out) : EE K (fr, 0, 0) 148 [some (.ref x0), some (.ref x1), some (.ref x2), some (.ref x3), some (.ref x4), some (.ref x5), some (.int x6), some (.int x7), some (.int x8), some (.int x9), some (.int x10), none] [] h := by
  unfold b_L_told_148 at hf
  refine E_aload_n (pc := 148) O 0 dL_told_148 rfl rfl ?_
  refine E_iload (pc := 149) O dL_told_149 rfl ?_
  refine E_bipush (pc := 151) O (7 : Int32) dL_told_151 (by decide) ?_
  refine E_callV_i (pc := 153) (S := []) O [.int x8, .int (7 : Int32)] CV_RailSequenceLaw_22 rfl (fun r e => t_X3_rail e) dL_told_153 hf rfl ⟨(Nat.le_of_ble_eq_true rfl), (Nat.le_of_ble_eq_true rfl)⟩ ⟨(Nat.le_of_ble_eq_true rfl), (Nat.le_of_ble_eq_true rfl)⟩ (Nat.le_of_ble_eq_true rfl) (fun p41 hf => ?_)
  refine E_aload_n (pc := 156) O 2 dL_told_156 rfl rfl ?_
  refine E_iload (pc := 157) O dL_told_157 rfl ?_
  refine E_iaload (pc := 159) O dL_told_159 hf (fun v42 hf => ?_)
  refine E_icmp_ne (pc := 160) O 244 dL_told_160 (by decide) hf (fun hf => ?_) (fun hf => ?_)
  · exact E_sub (L' := [none, none, none, none, none, none, none, none, none, none, none, none]) True.intro (t_b_L_told_244 O Z p41.2 hf)
  · refine E_aload_n (pc := 163) O 0 dL_told_163 rfl rfl ?_
    refine E_iload (pc := 164) O dL_told_164 rfl ?_
    refine E_bipush (pc := 166) O (8 : Int32) dL_told_166 (by decide) ?_
    refine E_callV_i (pc := 168) (S := []) O [.int x8, .int (8 : Int32)] CV_RailSequenceLaw_22 rfl (fun r e => t_X3_rail e) dL_told_168 hf rfl ⟨(Nat.le_of_ble_eq_true rfl), (Nat.le_of_ble_eq_true rfl)⟩ ⟨(Nat.le_of_ble_eq_true rfl), (Nat.le_of_ble_eq_true rfl)⟩ (Nat.le_of_ble_eq_true rfl) (fun p43 hf => ?_)
    refine E_iconst (pc := 171) O (1 : Int32) dL_told_171 (by decide) ?_
    refine E_iload (pc := 172) O dL_told_172 rfl ?_
    refine E_ishl (pc := 174) O dL_told_174 ?_
    refine E_iconst (pc := 175) O (1 : Int32) dL_told_175 (by decide) ?_
    refine E_aload_n (pc := 176) O 2 dL_told_176 rfl rfl ?_
    refine E_aload (pc := 177) O dL_told_177 rfl ?_
    refine E_callS_iP (pc := 179) (S := [.int p43.1]) O [.int ((1 : Int32) <<< (x8 &&& 31)), .int (1 : Int32), .ref x2, .ref x5] CS_RailSequenceLaw_28 (fun r e => t_L_closed e) dL_told_179 hf rfl ⟨(Nat.le_of_ble_eq_true rfl), (Nat.le_of_ble_eq_true rfl)⟩ ⟨(Nat.le_of_ble_eq_true rfl), (Nat.le_of_ble_eq_true rfl)⟩ (Nat.le_of_ble_eq_true rfl) (fun v44 hf => ?_)
    refine E_iconst (pc := 182) O (1 : Int32) dL_told_182 (by decide) ?_
    refine E_iload (pc := 183) O dL_told_183 rfl ?_
    refine E_ishl (pc := 185) O dL_told_185 ?_
    refine E_isub (pc := 186) O dL_told_186 ?_
    refine E_icmp_ne (pc := 187) O 244 dL_told_187 (by decide) hf (fun hf => ?_) (fun hf => ?_)
    · exact E_sub (L' := [none, none, none, none, none, none, none, none, none, none, none, none]) True.intro (t_b_L_told_244 O Z p43.2 hf)
    · refine E_aload_n (pc := 190) O 0 dL_told_190 rfl rfl ?_
      refine E_iload (pc := 191) O dL_told_191 rfl ?_
      refine E_bipush (pc := 193) O (12 : Int32) dL_told_193 (by decide) ?_
      refine E_callV_i (pc := 195) (S := []) O [.int x8, .int (12 : Int32)] CV_RailSequenceLaw_22 rfl (fun r e => t_X3_rail e) dL_told_195 hf rfl ⟨(Nat.le_of_ble_eq_true rfl), (Nat.le_of_ble_eq_true rfl)⟩ ⟨(Nat.le_of_ble_eq_true rfl), (Nat.le_of_ble_eq_true rfl)⟩ (Nat.le_of_ble_eq_true rfl) (fun p45 hf => ?_)
      refine E_iload (pc := 198) O dL_told_198 rfl ?_
      refine E_aload_n (pc := 200) O 1 dL_told_200 rfl rfl ?_
      refine E_aload_n (pc := 201) O 2 dL_told_201 rfl rfl ?_
      refine E_callS_iP (pc := 202) (S := [.int p45.1]) O [.int x8, .ref x1, .ref x2] CS_RailSequenceLaw_8 (fun r e => t_L_flag e) dL_told_202 hf rfl ⟨(Nat.le_of_ble_eq_true rfl), (Nat.le_of_ble_eq_true rfl)⟩ ⟨(Nat.le_of_ble_eq_true rfl), (Nat.le_of_ble_eq_true rfl)⟩ (Nat.le_of_ble_eq_true rfl) (fun v46 hf => ?_)
      refine E_if_eq (pc := 205) O 212 dL_told_205 (by decide) hf (fun hf => ?_) (fun hf => ?_)
      · refine E_iconst (pc := 212) O (0 : Int32) dL_told_212 (by decide) ?_
        exact t_b_L_told_213 O Z _ hr9 p45.2 x0 x1 x2 x3 x4 x5 x6 x7 x8 x9 x10 p45.1 (0 : Int32) hf
      · refine E_iconst (pc := 208) O (1 : Int32) dL_told_208 (by decide) ?_
        refine E_goto (pc := 209) O 213 dL_told_209 (by decide) ?_
        exact t_b_L_told_213 O Z _ hr9 p45.2 x0 x1 x2 x3 x4 x5 x6 x7 x8 x9 x10 p45.1 (1 : Int32) hf
set_option maxHeartbeats 4000000 in
set_option maxRecDepth 100000 in
theorem t_b_L_told_100 {K : Cx} {fr : Bool} {out : (Int32 × MH)} (O : Ok K yL_told.cls cL_told 12 (rmm 7 171 0 0)) (Z : Out K (some .boolean) fr (some (.int out.1)) out.2) (rec9 : MH → Nat → Nat → Nat → Nat → Nat → Nat → Int32 → Int32 → Int32 → Option (Int32 × MH)) (hr9 : ∀ (h : MH) (x0 : Nat) (x1 : Nat) (x2 : Nat) (x3 : Nat) (x4 : Nat) (x5 : Nat) (x6 : Int32) (x7 : Int32) (x8 : Int32), rec9 h x0 x1 x2 x3 x4 x5 x6 x7 x8 = some out → EE K (fr, 0, 0) 9 [some (.ref x0), some (.ref x1), some (.ref x2), some (.ref x3), some (.ref x4), some (.ref x5), some (.int x6), some (.int x7), some (.int x8), none, none, none] [] h) (rec100 : MH → Nat → Nat → Nat → Nat → Nat → Nat → Int32 → Int32 → Int32 → Int32 → Int32 → Int32 → Option (Int32 × MH)) (hr100 : ∀ (h : MH) (x0 : Nat) (x1 : Nat) (x2 : Nat) (x3 : Nat) (x4 : Nat) (x5 : Nat) (x6 : Int32) (x7 : Int32) (x8 : Int32) (x9 : Int32) (x10 : Int32) (x11 : Int32), rec100 h x0 x1 x2 x3 x4 x5 x6 x7 x8 x9 x10 x11 = some out → EE K (fr, 0, 0) 100 [some (.ref x0), some (.ref x1), some (.ref x2), some (.ref x3), some (.ref x4), some (.ref x5), some (.int x6), some (.int x7), some (.int x8), some (.int x9), some (.int x10), some (.int x11)] [] h) (h : MH) (x0 : Nat) (x1 : Nat) (x2 : Nat) (x3 : Nat) (x4 : Nat) (x5 : Nat) (x6 : Int32) (x7 : Int32) (x8 : Int32) (x9 : Int32) (x10 : Int32) (x11 : Int32) (hf : b_L_told_100 rec9 rec100 h x0 x1 x2 x3 x4 x5 x6 x7 x8 x9 x10 x11 = some out) : EE K (fr, 0, 0) 100 [some (.ref x0), some (.ref x1), some (.ref x2), some (.ref x3), some (.ref x4), some (.ref x5), some (.int x6), some (.int x7), some (.int x8), some (.int x9), some (.int x10), some (.int x11)] [] h := by
  unfold b_L_told_100 at hf
  refine E_iload (pc := 100) O dL_told_100 rfl ?_
  refine E_bipush (pc := 102) O (8 : Int32) dL_told_102 (by decide) ?_
  refine E_icmp_ge (pc := 104) O 148 dL_told_104 (by decide) hf (fun hf => ?_) (fun hf => ?_)
  · exact E_sub (L' := [some (.ref x0), some (.ref x1), some (.ref x2), some (.ref x3), some (.ref x4), some (.ref x5), some (.int x6), some (.int x7), some (.int x8), some (.int x9), some (.int x10), none]) (And.intro rfl (And.intro rfl (And.intro rfl (And.intro rfl (And.intro rfl (And.intro rfl (And.intro rfl (And.intro rfl (And.intro rfl (And.intro rfl (And.intro rfl True.intro))))))))))) (t_b_L_told_148 O Z _ hr9 h x0 x1 x2 x3 x4 x5 x6 x7 x8 x9 x10 hf)
  · refine E_iload (pc := 107) O dL_told_107 rfl ?_
    refine E_if_lt (pc := 109) O 148 dL_told_109 (by decide) hf (fun hf => ?_) (fun hf => ?_)
    · exact E_sub (L' := [some (.ref x0), some (.ref x1), some (.ref x2), some (.ref x3), some (.ref x4), some (.ref x5), some (.int x6), some (.int x7), some (.int x8), some (.int x9), some (.int x10), none]) (And.intro rfl (And.intro rfl (And.intro rfl (And.intro rfl (And.intro rfl (And.intro rfl (And.intro rfl (And.intro rfl (And.intro rfl (And.intro rfl (And.intro rfl True.intro))))))))))) (t_b_L_told_148 O Z _ hr9 h x0 x1 x2 x3 x4 x5 x6 x7 x8 x9 x10 hf)
    · refine E_aload_n (pc := 112) O 2 dL_told_112 rfl rfl ?_
      refine E_bipush (pc := 113) O (9 : Int32) dL_told_113 (by decide) ?_
      refine E_iload (pc := 115) O dL_told_115 rfl ?_
      refine E_imul (pc := 117) O dL_told_117 ?_
      refine E_bipush (pc := 118) O (8 : Int32) dL_told_118 (by decide) ?_
      refine E_iadd (pc := 120) O dL_told_120 ?_
      refine E_iaload (pc := 121) O dL_told_121 hf (fun v47 hf => ?_)
      refine E_if_lt (pc := 122) O 138 dL_told_122 (by decide) hf (fun hf => ?_) (fun hf => ?_)
      · refine E_iload (pc := 138) O dL_told_138 rfl ?_
        exact E_sub (L' := [some (.ref x0), some (.ref x1), some (.ref x2), some (.ref x3), some (.ref x4), some (.ref x5), some (.int x6), some (.int x7), some (.int x8), some (.int x9), none, some (.int x11)]) (And.intro rfl (And.intro rfl (And.intro rfl (And.intro rfl (And.intro rfl (And.intro rfl (And.intro rfl (And.intro rfl (And.intro rfl (And.intro rfl (And.intro rfl True.intro))))))))))) (t_b_L_told_140 O Z _ hr9 _ hr100 h x0 x1 x2 x3 x4 x5 x6 x7 x8 x9 x11 x10 hf)
      · refine E_aload_n (pc := 125) O 2 dL_told_125 rfl rfl ?_
        refine E_bipush (pc := 126) O (9 : Int32) dL_told_126 (by decide) ?_
        refine E_iload (pc := 128) O dL_told_128 rfl ?_
        refine E_imul (pc := 130) O dL_told_130 ?_
        refine E_bipush (pc := 131) O (8 : Int32) dL_told_131 (by decide) ?_
        refine E_iadd (pc := 133) O dL_told_133 ?_
        refine E_iaload (pc := 134) O dL_told_134 hf (fun v48 hf => ?_)
        refine E_goto (pc := 135) O 140 dL_told_135 (by decide) ?_
        exact E_sub (L' := [some (.ref x0), some (.ref x1), some (.ref x2), some (.ref x3), some (.ref x4), some (.ref x5), some (.int x6), some (.int x7), some (.int x8), some (.int x9), none, some (.int x11)]) (And.intro rfl (And.intro rfl (And.intro rfl (And.intro rfl (And.intro rfl (And.intro rfl (And.intro rfl (And.intro rfl (And.intro rfl (And.intro rfl (And.intro rfl True.intro))))))))))) (t_b_L_told_140 O Z _ hr9 _ hr100 h x0 x1 x2 x3 x4 x5 x6 x7 x8 x9 x11 v48 hf)
theorem t_f_L_told_100 {K : Cx} {fr : Bool} {out : (Int32 × MH)} (O : Ok K yL_told.cls cL_told 12 (rmm 7 171 0 0)) (Z : Out K (some .boolean) fr (some (.int out.1)) out.2) (rec9 : MH → Nat → Nat → Nat → Nat → Nat → Nat → Int32 → Int32 → Int32 → Option (Int32 × MH)) (hr9 : ∀ (h : MH) (x0 : Nat) (x1 : Nat) (x2 : Nat) (x3 : Nat) (x4 : Nat) (x5 : Nat) (x6 : Int32) (x7 : Int32) (x8 : Int32), rec9 h x0 x1 x2 x3 x4 x5 x6 x7 x8 = some out → EE K (fr, 0, 0) 9 [some (.ref x0), some (.ref x1), some (.ref x2), some (.ref x3), some (.ref x4), some (.ref x5), some (.int x6), some (.int x7), some (.int x8), none, none, none] [] h) : ∀ (n : Nat) (h : MH) (x0 : Nat) (x1 : Nat) (x2 : Nat) (x3 : Nat) (x4 : Nat) (x5 : Nat) (x6 : Int32) (x7 : Int32) (x8 : Int32) (x9 : Int32) (x10 : Int32) (x11 : Int32), f_L_told_100 rec9 n h x0 x1 x2 x3 x4 x5 x6 x7 x8 x9 x10 x11 = some out → EE K (fr, 0, 0) 100 [some (.ref x0), some (.ref x1), some (.ref x2), some (.ref x3), some (.ref x4), some (.ref x5), some (.int x6), some (.int x7), some (.int x8), some (.int x9), some (.int x10), some (.int x11)] [] h := by
  intro n
  induction n with
  | zero => intro h x0 x1 x2 x3 x4 x5 x6 x7 x8 x9 x10 x11 hf; cases hf
  | succ n ih => intro h x0 x1 x2 x3 x4 x5 x6 x7 x8 x9 x10 x11 hf; exact t_b_L_told_100 O Z _ hr9 _ ih h x0 x1 x2 x3 x4 x5 x6 x7 x8 x9 x10 x11 hf
set_option maxHeartbeats 4000000 in
set_option maxRecDepth 100000 in
theorem t_b_L_told_52 {K : Cx} {fr : Bool} {out : (Int32 × MH)} (O : Ok K yL_told.cls cL_told 12 (rmm 7 171 0 0)) (Z : Out K (some .boolean) fr (some (.int out.1)) out.2) (rec9 : MH → Nat → Nat → Nat → Nat → Nat → Nat → Int32 → Int32 → Int32 → Option (Int32 × MH)) (hr9 : ∀ (h : MH) (x0 : Nat) (x1 : Nat) (x2 : Nat) (x3 : Nat) (x4 : Nat) (x5 : Nat) (x6 : Int32) (x7 : Int32) (x8 : Int32), rec9 h x0 x1 x2 x3 x4 x5 x6 x7 x8 = some out → EE K (fr, 0, 0) 9 [some (.ref x0), some (.ref x1), some (.ref x2), some (.ref x3), some (.ref x4), some (.ref x5), some (.int x6), some (.int x7), some (.int x8), none, none, none] [] h) (rec52 : MH → Nat → Nat → Nat → Nat → Nat → Nat → Int32 → Int32 → Int32 → Int32 → Int32 → Option (Int32 × MH)) (hr52 : ∀ (h : MH) (x0 : Nat) (x1 : Nat) (x2 : Nat) (x3 : Nat) (x4 : Nat) (x5 : Nat) (x6 : Int32) (x7 : Int32) (x8 : Int32) (x9 : Int32) (x10 : Int32), rec52 h x0 x1 x2 x3 x4 x5 x6 x7 x8 x9 x10 = some out → EE K (fr, 0, 0) 52 [some (.ref x0), some (.ref x1), some (.ref x2), some (.ref x3), some (.ref x4), some (.ref x5), some (.int x6), some (.int x7), some (.int x8), some (.int x9), some (.int x10), none] [] h) (h : MH) (x0 : Nat) (x1 : Nat) (x2 : Nat) (x3 : Nat) (x4 : Nat) (x5 : Nat) (x6 : Int32) (x7 : Int32) (x8 : Int32) (x9 : Int32) (x10 : Int32) (hf : b_L_told_52 rec9 rec52 h x0 x1 x2 x3 x4 x5 x6 x7 x8 x9 x10 = some out) : EE K (fr, 0, 0) 52 [some (.ref x0), some (.ref x1), some (.ref x2), some (.ref x3), some (.ref x4), some (.ref x5), some (.int x6), some (.int x7), some (.int x8), some (.int x9), some (.int x10), none] [] h := by
  unfold b_L_told_52 at hf
  refine E_iload (pc := 52) O dL_told_52 rfl ?_
  refine E_bipush (pc := 54) O (7 : Int32) dL_told_54 (by decide) ?_
  refine E_icmp_ge (pc := 56) O 88 dL_told_56 (by decide) hf (fun hf => ?_) (fun hf => ?_)
  · refine E_aload_n (pc := 88) O 2 dL_told_88 rfl rfl ?_
    refine E_iload (pc := 89) O dL_told_89 rfl ?_
    refine E_bipush (pc := 91) O (8 : Int32) dL_told_91 (by decide) ?_
    refine E_iadd (pc := 93) O dL_told_93 ?_
    refine E_iaload (pc := 94) O dL_told_94 hf (fun v49 hf => ?_)
    refine E_istore (pc := 95) O [some (.ref x0), some (.ref x1), some (.ref x2), some (.ref x3), some (.ref x4), some (.ref x5), some (.int x6), some (.int x7), some (.int x8), some (.int x9), some (.int v49), none] dL_told_95 (by decide) rfl rfl ?_
    refine E_iconst (pc := 97) O (0 : Int32) dL_told_97 (by decide) ?_
    refine E_istore (pc := 98) O [some (.ref x0), some (.ref x1), some (.ref x2), some (.ref x3), some (.ref x4), some (.ref x5), some (.int x6), some (.int x7), some (.int x8), some (.int x9), some (.int v49), some (.int (0 : Int32))] dL_told_98 (by decide) rfl rfl ?_
    exact t_f_L_told_100 O Z _ hr9 FU h x0 x1 x2 x3 x4 x5 x6 x7 x8 x9 v49 (0 : Int32) hf
  · refine E_aload_n (pc := 59) O 0 dL_told_59 rfl rfl ?_
    refine E_iload (pc := 60) O dL_told_60 rfl ?_
    refine E_iload (pc := 62) O dL_told_62 rfl ?_
    refine E_callV_i (pc := 64) (S := []) O [.int x8, .int x10] CV_RailSequenceLaw_22 rfl (fun r e => t_X3_rail e) dL_told_64 hf rfl ⟨(Nat.le_of_ble_eq_true rfl), (Nat.le_of_ble_eq_true rfl)⟩ ⟨(Nat.le_of_ble_eq_true rfl), (Nat.le_of_ble_eq_true rfl)⟩ (Nat.le_of_ble_eq_true rfl) (fun p50 hf => ?_)
    refine E_aload_n (pc := 67) O 1 dL_told_67 rfl rfl ?_
    refine E_bipush (pc := 68) O (7 : Int32) dL_told_68 (by decide) ?_
    refine E_iload (pc := 70) O dL_told_70 rfl ?_
    refine E_imul (pc := 72) O dL_told_72 ?_
    refine E_iload (pc := 73) O dL_told_73 rfl ?_
    refine E_iadd (pc := 75) O dL_told_75 ?_
    refine E_iaload (pc := 76) O dL_told_76 hf (fun v51 hf => ?_)
    refine E_icmp_eq (pc := 77) O 82 dL_told_77 (by decide) hf (fun hf => ?_) (fun hf => ?_)
    · refine E_iinc (pc := 82) O (1 : Int32) [some (.ref x0), some (.ref x1), some (.ref x2), some (.ref x3), some (.ref x4), some (.ref x5), some (.int x6), some (.int x7), some (.int x8), some (.int x9), some (.int (x10 + (1 : Int32))), none] dL_told_82 rfl (by decide) rfl (by decide) rfl ?_
      refine E_goto (pc := 85) O 52 dL_told_85 (by decide) ?_
      exact hr52 p50.2 x0 x1 x2 x3 x4 x5 x6 x7 x8 x9 (x10 + (1 : Int32)) hf
    · refine E_iconst (pc := 80) O (0 : Int32) dL_told_80 (by decide) ?_
      exact E_zret (pc := 81) O Z hf ⟨(Nat.le_of_ble_eq_true rfl), (Nat.le_of_ble_eq_true rfl)⟩ dL_told_81
theorem t_f_L_told_52 {K : Cx} {fr : Bool} {out : (Int32 × MH)} (O : Ok K yL_told.cls cL_told 12 (rmm 7 171 0 0)) (Z : Out K (some .boolean) fr (some (.int out.1)) out.2) (rec9 : MH → Nat → Nat → Nat → Nat → Nat → Nat → Int32 → Int32 → Int32 → Option (Int32 × MH)) (hr9 : ∀ (h : MH) (x0 : Nat) (x1 : Nat) (x2 : Nat) (x3 : Nat) (x4 : Nat) (x5 : Nat) (x6 : Int32) (x7 : Int32) (x8 : Int32), rec9 h x0 x1 x2 x3 x4 x5 x6 x7 x8 = some out → EE K (fr, 0, 0) 9 [some (.ref x0), some (.ref x1), some (.ref x2), some (.ref x3), some (.ref x4), some (.ref x5), some (.int x6), some (.int x7), some (.int x8), none, none, none] [] h) : ∀ (n : Nat) (h : MH) (x0 : Nat) (x1 : Nat) (x2 : Nat) (x3 : Nat) (x4 : Nat) (x5 : Nat) (x6 : Int32) (x7 : Int32) (x8 : Int32) (x9 : Int32) (x10 : Int32), f_L_told_52 rec9 n h x0 x1 x2 x3 x4 x5 x6 x7 x8 x9 x10 = some out → EE K (fr, 0, 0) 52 [some (.ref x0), some (.ref x1), some (.ref x2), some (.ref x3), some (.ref x4), some (.ref x5), some (.int x6), some (.int x7), some (.int x8), some (.int x9), some (.int x10), none] [] h := by
  intro n
  induction n with
  | zero => intro h x0 x1 x2 x3 x4 x5 x6 x7 x8 x9 x10 hf; cases hf
  | succ n ih => intro h x0 x1 x2 x3 x4 x5 x6 x7 x8 x9 x10 hf; exact t_b_L_told_52 O Z _ hr9 _ ih h x0 x1 x2 x3 x4 x5 x6 x7 x8 x9 x10 hf
set_option maxHeartbeats 4000000 in
set_option maxRecDepth 100000 in
theorem t_b_L_told_9 {K : Cx} {fr : Bool} {out : (Int32 × MH)} (O : Ok K yL_told.cls cL_told 12 (rmm 7 171 0 0)) (Z : Out K (some .boolean) fr (some (.int out.1)) out.2) (rec9 : MH → Nat → Nat → Nat → Nat → Nat → Nat → Int32 → Int32 → Int32 → Option (Int32 × MH)) (hr9 : ∀ (h : MH) (x0 : Nat) (x1 : Nat) (x2 : Nat) (x3 : Nat) (x4 : Nat) (x5 : Nat) (x6 : Int32) (x7 : Int32) (x8 : Int32), rec9 h x0 x1 x2 x3 x4 x5 x6 x7 x8 = some out → EE K (fr, 0, 0) 9 [some (.ref x0), some (.ref x1), some (.ref x2), some (.ref x3), some (.ref x4), some (.ref x5), some (.int x6), some (.int x7), some (.int x8), none, none, none] [] h) (h : MH) (x0 : Nat) (x1 : Nat) (x2 : Nat) (x3 : Nat) (x4 : Nat) (x5 : Nat) (x6 : Int32) (x7 : Int32) (x8 : Int32) (hf : b_L_told_9 rec9 h x0 x1 x2 x3 x4 x5 x6 x7 x8 = some out) : EE K (fr, 0, 0) 9 [some (.ref x0), some (.ref x1), some (.ref x2), some (.ref x3), some (.ref x4), some (.ref x5), some (.int x6), some (.int x7), some (.int x8), none, none, none] [] h := by
  unfold b_L_told_9 at hf
  refine E_iload (pc := 9) O dL_told_9 rfl ?_
  refine E_aload (pc := 11) O dL_told_11 rfl ?_
  refine E_iconst (pc := 13) O (0 : Int32) dL_told_13 (by decide) ?_
  refine E_iaload (pc := 14) O dL_told_14 hf (fun v52 hf => ?_)
  refine E_icmp_ge (pc := 15) O 382 dL_told_15 (by decide) hf (fun hf => ?_) (fun hf => ?_)
  · refine E_iconst (pc := 382) O (0 : Int32) dL_told_382 (by decide) ?_
    refine E_istore (pc := 383) O [some (.ref x0), some (.ref x1), some (.ref x2), some (.ref x3), some (.ref x4), some (.ref x5), some (.int x6), some (.int x7), some (.int (0 : Int32)), none, none, none] dL_told_383 (by decide) rfl rfl ?_
    exact E_sub (L' := [some (.ref x0), none, some (.ref x2), none, some (.ref x4), some (.ref x5), some (.int x6), some (.int x7), some (.int (0 : Int32)), none, none, none]) (And.intro rfl (And.intro rfl (And.intro rfl (And.intro rfl (And.intro rfl (And.intro rfl (And.intro rfl True.intro))))))) (t_f_L_told_385 O Z FU h x0 x2 x4 x5 x6 x7 (0 : Int32) hf)
  · refine E_bipush (pc := 18) O (9 : Int32) dL_told_18 (by decide) ?_
    refine E_iload (pc := 20) O dL_told_20 rfl ?_
    refine E_imul (pc := 22) O dL_told_22 ?_
    obtain ⟨v53, ev53, hf⟩ := ob hf
    have ev53 := os ev53
    rw [ev53]
    refine E_istore (pc := 23) O [some (.ref x0), some (.ref x1), some (.ref x2), some (.ref x3), some (.ref x4), some (.ref x5), some (.int x6), some (.int x7), some (.int x8), some (.int v53), none, none] dL_told_23 (by decide) rfl rfl ?_
    refine E_iload (pc := 25) O dL_told_25 rfl ?_
    refine E_aload_n (pc := 27) O 2 dL_told_27 rfl rfl ?_
    refine E_iload (pc := 28) O dL_told_28 rfl ?_
    refine E_iconst (pc := 30) O (3 : Int32) dL_told_30 (by decide) ?_
    refine E_iadd (pc := 31) O dL_told_31 ?_
    refine E_iaload (pc := 32) O dL_told_32 hf (fun v54 hf => ?_)
    refine E_iadd (pc := 33) O dL_told_33 ?_
    obtain ⟨v55, ev55, hf⟩ := ob hf
    have ev55 := os ev55
    rw [ev55]
    refine E_istore (pc := 34) O [some (.ref x0), some (.ref x1), some (.ref x2), some (.ref x3), some (.ref x4), some (.ref x5), some (.int v55), some (.int x7), some (.int x8), some (.int v53), none, none] dL_told_34 (by decide) rfl rfl ?_
    refine E_iload (pc := 36) O dL_told_36 rfl ?_
    refine E_aload_n (pc := 38) O 3 dL_told_38 rfl rfl ?_
    refine E_iconst (pc := 39) O (4 : Int32) dL_told_39 (by decide) ?_
    refine E_iload (pc := 40) O dL_told_40 rfl ?_
    refine E_imul (pc := 42) O dL_told_42 ?_
    refine E_iconst (pc := 43) O (3 : Int32) dL_told_43 (by decide) ?_
    refine E_iadd (pc := 44) O dL_told_44 ?_
    refine E_iaload (pc := 45) O dL_told_45 hf (fun v56 hf => ?_)
    refine E_iadd (pc := 46) O dL_told_46 ?_
    obtain ⟨v57, ev57, hf⟩ := ob hf
    have ev57 := os ev57
    rw [ev57]
    refine E_istore (pc := 47) O [some (.ref x0), some (.ref x1), some (.ref x2), some (.ref x3), some (.ref x4), some (.ref x5), some (.int v55), some (.int v57), some (.int x8), some (.int v53), none, none] dL_told_47 (by decide) rfl rfl ?_
    refine E_iconst (pc := 49) O (0 : Int32) dL_told_49 (by decide) ?_
    refine E_istore (pc := 50) O [some (.ref x0), some (.ref x1), some (.ref x2), some (.ref x3), some (.ref x4), some (.ref x5), some (.int v55), some (.int v57), some (.int x8), some (.int v53), some (.int (0 : Int32)), none] dL_told_50 (by decide) rfl rfl ?_
    exact t_f_L_told_52 O Z _ hr9 FU h x0 x1 x2 x3 x4 x5 v55 v57 x8 v53 (0 : Int32) hf
theorem t_f_L_told_9 {K : Cx} {fr : Bool} {out : (Int32 × MH)} (O : Ok K yL_told.cls cL_told 12 (rmm 7 171 0 0)) (Z : Out K (some .boolean) fr (some (.int out.1)) out.2) : ∀ (n : Nat) (h : MH) (x0 : Nat) (x1 : Nat) (x2 : Nat) (x3 : Nat) (x4 : Nat) (x5 : Nat) (x6 : Int32) (x7 : Int32) (x8 : Int32), f_L_told_9 n h x0 x1 x2 x3 x4 x5 x6 x7 x8 = some out → EE K (fr, 0, 0) 9 [some (.ref x0), some (.ref x1), some (.ref x2), some (.ref x3), some (.ref x4), some (.ref x5), some (.int x6), some (.int x7), some (.int x8), none, none, none] [] h := by
  intro n
  induction n with
  | zero => intro h x0 x1 x2 x3 x4 x5 x6 x7 x8 hf; cases hf
  | succ n ih => intro h x0 x1 x2 x3 x4 x5 x6 x7 x8 hf; exact t_b_L_told_9 O Z _ ih h x0 x1 x2 x3 x4 x5 x6 x7 x8 hf
set_option maxHeartbeats 4000000 in
set_option maxRecDepth 100000 in
theorem t_L_told {g : Gx} {fr : Bool} {h : MH} {x0 x1 x2 x3 x4 x5} {out : (Int32 × MH)} (hf : f_L_told h x0 x1 x2 x3 x4 x5 = some out) : MM g yL_told cL_told 12 (some .boolean) 7 171 0 0 fr fr [.ref x0, .ref x1, .ref x2, .ref x3, .ref x4, .ref x5] h (some (.int out.1)) out.2 := by
  unfold f_L_told at hf
  refine MM_of (L := [some (.ref x0), some (.ref x1), some (.ref x2), some (.ref x3), some (.ref x4), some (.ref x5), none, none, none, none, none, none]) (by decide) (Nat.le_of_ble_eq_true rfl) rfl (fun K hK O Z hn => ?_)
  refine E_iconst (pc := 0) O (0 : Int32) dL_told_0 (by decide) ?_
  refine E_istore (pc := 1) O [some (.ref x0), some (.ref x1), some (.ref x2), some (.ref x3), some (.ref x4), some (.ref x5), some (.int (0 : Int32)), none, none, none, none, none] dL_told_1 (by decide) rfl rfl ?_
  refine E_iconst (pc := 3) O (0 : Int32) dL_told_3 (by decide) ?_
  refine E_istore (pc := 4) O [some (.ref x0), some (.ref x1), some (.ref x2), some (.ref x3), some (.ref x4), some (.ref x5), some (.int (0 : Int32)), some (.int (0 : Int32)), none, none, none, none] dL_told_4 (by decide) rfl rfl ?_
  refine E_iconst (pc := 6) O (0 : Int32) dL_told_6 (by decide) ?_
  refine E_istore (pc := 7) O [some (.ref x0), some (.ref x1), some (.ref x2), some (.ref x3), some (.ref x4), some (.ref x5), some (.int (0 : Int32)), some (.int (0 : Int32)), some (.int (0 : Int32)), none, none, none] dL_told_7 (by decide) rfl rfl ?_
  exact t_f_L_told_9 O Z FU h x0 x1 x2 x3 x4 x5 (0 : Int32) (0 : Int32) (0 : Int32) hf
