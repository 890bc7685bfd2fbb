/-! THE LAW'S LOOP, by program (tools/genLoop.py) -/
theorem rl_head {L t : Nat} (hL : L ≤ 4096) (ht : t ≤ 4200) : nI L - 8 < nI t ↔ L < t + 8 := by
  have h1 : (nI L - 8).toInt = (L : Int) - 8 := by
    rw [Int32.toInt_sub, nI_toInt (by omega), show (8 : Int32).toInt = 8 by decide]
    show ((L : Int) - 8).bmod 4294967296 = (L : Int) - 8
    unfold Int.bmod
    dsimp only
    split <;> omega
  rw [Int32.lt_iff_toInt_lt, h1, nI_toInt (by omega)]
  omega
set_option maxHeartbeats 4000000 in
set_option maxRecDepth 100000 in
theorem law_loop {p : Program} {l : Launch} {e : Env} {s : State} {m : MethodId} {below : List Frame} {meth : Method} {c : Code} {b L : Nat} {xs : Nat → Int32} {D : va_G} {cI cZ cO cJ : ClassId} {ad2 : Nat → Nat} {mi de o a0 : Nat} {Rel : rC_gh → rv_Mem → rv_Mem → Prop} (E : rl_E D cI cZ cO cJ ad2 mi de o b L xs p l s m c) (hL : L ≤ 4096) (hret : meth.sig.returnType = ret) (hlk : meth.locks = false) (h_take : ∀ gh MC MR, Rel gh MC MR → ∀ (p1 : Int32), rS_take Rel gh MC MR p1) (h_takeSet : ∀ gh MC MR, Rel gh MC MR → ∀ (p1 : Int32) (p2 : Int32), rS_takeSet Rel gh MC MR p1 p2) (h_put : ∀ gh MC MR, Rel gh MC MR → ∀ (p1 : Int32) (p2 : Int32) (p3 : Int32), rS_put Rel gh MC MR p1 p2 p3) (h_cut : ∀ gh MC MR, Rel gh MC MR → ∀ (p1 : Int32) (p2 : Int32), rS_cut Rel gh MC MR p1 p2) (h_commits : ∀ gh MC MR, Rel gh MC MR → rS_commits Rel gh MC MR) (h_line : ∀ gh MC MR, Rel gh MC MR → ∀ (p1 : Int32) (p2 : Int32) (p3 : Int32), rS_line Rel gh MC MR p1 p2 p3) (h_before : ∀ gh MC MR, Rel gh MC MR → ∀ (p1 : Int32), rS_before Rel gh MC MR p1) (h_tip : ∀ gh MC MR, Rel gh MC MR → ∀ (p1 : Int32), rS_tip Rel gh MC MR p1) (h_namedAfter : ∀ gh MC MR, Rel gh MC MR → ∀ (p1 : Int32), rS_namedAfter Rel gh MC MR p1) (h_open : ∀ gh MC MR, Rel gh MC MR → ∀ (p1 : Int32), rS_open Rel gh MC MR p1) (h_upload : ∀ gh MC MR, Rel gh MC MR → ∀ (p1 : Int32) (p2 : Int32), rS_upload Rel gh MC MR p1 p2) (h_rebase : ∀ gh MC MR, Rel gh MC MR → ∀ (p1 : Int32) (p2 : Int32), rS_rebase Rel gh MC MR p1 p2) (h_abandon : ∀ gh MC MR, Rel gh MC MR → ∀ (p1 : Int32) (p2 : Int32), rS_abandon Rel gh MC MR p1 p2) (h_restore : ∀ gh MC MR, Rel gh MC MR → ∀ (p1 : Int32), rS_restore Rel gh MC MR p1) (h_setFlags : ∀ gh MC MR, Rel gh MC MR → ∀ (p1 : Int32) (p2 : Bool) (p3 : Bool), rS_setFlags Rel gh MC MR p1 p2 p3) (h_setTopic : ∀ gh MC MR, Rel gh MC MR → ∀ (p1 : Int32) (p2 : Int32), rS_setTopic Rel gh MC MR p1 p2) (h_changes : ∀ gh MC MR, Rel gh MC MR → rS_changes Rel gh MC MR) (h_stateOf : ∀ gh MC MR, Rel gh MC MR → ∀ (p1 : Int32), rS_stateOf Rel gh MC MR p1) (h_sets : ∀ gh MC MR, Rel gh MC MR → ∀ (p1 : Int32), rS_sets Rel gh MC MR p1) (h_commitOf : ∀ gh MC MR, Rel gh MC MR → ∀ (p1 : Int32) (p2 : Int32), rS_commitOf Rel gh MC MR p1 p2) (h_kindOf : ∀ gh MC MR, Rel gh MC MR → ∀ (p1 : Int32) (p2 : Int32), rS_kindOf Rel gh MC MR p1 p2) (h_parentOf : ∀ gh MC MR, Rel gh MC MR → ∀ (p1 : Int32), rS_parentOf Rel gh MC MR p1) (h_hunks : ∀ gh MC MR, Rel gh MC MR → ∀ (p1 : Int32) (p2 : Int32) (p3 : Int32) (p4 : Int32) (p5 : Bool), rS_hunks Rel gh MC MR p1 p2 p3 p4 p5) (h_hunkAt : ∀ gh MC MR, Rel gh MC MR → ∀ (p1 : Int32) (p2 : Int32) (p3 : Int32) (p4 : Int32) (p5 : Bool) (p6 : Int32), rS_hunkAt Rel gh MC MR p1 p2 p3 p4 p5 p6) (h_comment : ∀ gh MC MR, Rel gh MC MR → ∀ (p1 : Int32) (p2 : Int32) (p3 : Int32) (p4 : Int32) (p5 : Int32) (p6 : Int32) (p7 : Bool), rS_comment Rel gh MC MR p1 p2 p3 p4 p5 p6 p7) (h_answer : ∀ gh MC MR, Rel gh MC MR → ∀ (p1 : Int32) (p2 : Int32) (p3 : Bool), rS_answer Rel gh MC MR p1 p2 p3) (h_publish : ∀ gh MC MR, Rel gh MC MR → ∀ (p1 : Int32) (p2 : Int32), rS_publish Rel gh MC MR p1 p2) (h_shown : ∀ gh MC MR, Rel gh MC MR → ∀ (p1 : Int32) (p2 : Int32), rS_shown Rel gh MC MR p1 p2) (h_unresolved : ∀ gh MC MR, Rel gh MC MR → ∀ (p1 : Int32), rS_unresolved Rel gh MC MR p1) (h_find : ∀ gh MC MR, Rel gh MC MR → ∀ (p1 : Int32) (p2 : Int32) (p3 : Int32) (p4 : Int32) (p5 : Int32) (p6 : Int32), rS_find Rel gh MC MR p1 p2 p3 p4 p5 p6) (h_takeFixes : ∀ gh MC MR, Rel gh MC MR → ∀ (p1 : Int32) (p2 : Int32), rS_takeFixes Rel gh MC MR p1 p2) (h_setOwners : ∀ gh MC MR, Rel gh MC MR → ∀ (p1 : Int32) (p2 : Int32) (p3 : Int32) (p4 : Bool), rS_setOwners Rel gh MC MR p1 p2 p3 p4) (h_setInclude : ∀ gh MC MR, Rel gh MC MR → ∀ (p1 : Int32) (p2 : Int32) (p3 : Bool), rS_setInclude Rel gh MC MR p1 p2 p3) (h_setLastResort : ∀ gh MC MR, Rel gh MC MR → ∀ (p1 : Int32), rS_setLastResort Rel gh MC MR p1) (h_owners : ∀ gh MC MR, Rel gh MC MR → ∀ (p1 : Int32) (p2 : Int32), rS_owners Rel gh MC MR p1 p2) (h_fewest : ∀ gh MC MR, Rel gh MC MR → ∀ (p1 : Int32), rS_fewest Rel gh MC MR p1) (h_vote : ∀ gh MC MR, Rel gh MC MR → ∀ (p1 : Int32) (p2 : Int32) (p3 : Int32) (p4 : Int32) (p5 : Int32), rS_vote Rel gh MC MR p1 p2 p3 p4 p5) (h_worth : ∀ gh MC MR, Rel gh MC MR → ∀ (p1 : Int32) (p2 : Int32) (p3 : Int32) (p4 : Int32), rS_worth Rel gh MC MR p1 p2 p3 p4) (h_setCopied : ∀ gh MC MR, Rel gh MC MR → ∀ (p1 : Int32) (p2 : Int32) (p3 : Int32), rS_setCopied Rel gh MC MR p1 p2 p3) (h_addRule : ∀ gh MC MR, Rel gh MC MR → ∀ (p1 : Int32) (p2 : Int32) (p3 : Int32), rS_addRule Rel gh MC MR p1 p2 p3) (h_dropRule : ∀ gh MC MR, Rel gh MC MR → ∀ (p1 : Int32), rS_dropRule Rel gh MC MR p1) (h_statements : ∀ gh MC MR, Rel gh MC MR → ∀ (p1 : Int32), rS_statements Rel gh MC MR p1) (h_lacks : ∀ gh MC MR, Rel gh MC MR → ∀ (p1 : Int32), rS_lacks Rel gh MC MR p1) (h_setWay : ∀ gh MC MR, Rel gh MC MR → ∀ (p1 : Int32) (p2 : Int32), rS_setWay Rel gh MC MR p1 p2) (h_group : ∀ gh MC MR, Rel gh MC MR → ∀ (p1 : Int32), rS_group Rel gh MC MR p1) (h_land : ∀ gh MC MR, Rel gh MC MR → ∀ (p1 : Int32) (p2 : Int32), rS_land Rel gh MC MR p1 p2) (h_addReviewer : ∀ gh MC MR, Rel gh MC MR → ∀ (p1 : Int32) (p2 : Int32), rS_addReviewer Rel gh MC MR p1 p2) (h_reviewers : ∀ gh MC MR, Rel gh MC MR → ∀ (p1 : Int32), rS_reviewers Rel gh MC MR p1) (h_whoseTurn : ∀ gh MC MR, Rel gh MC MR → ∀ (p1 : Int32), rS_whoseTurn Rel gh MC MR p1) (h_watch : ∀ gh MC MR, Rel gh MC MR → ∀ (p1 : Int32) (p2 : Int32) (p3 : Bool), rS_watch Rel gh MC MR p1 p2 p3) (h_mails : ∀ gh MC MR, Rel gh MC MR → ∀ (p1 : Int32), rS_mails Rel gh MC MR p1) (h_advance : ∀ gh MC MR, Rel gh MC MR → ∀ (p1 : Int32), rS_advance Rel gh MC MR p1) (h_day : ∀ gh MC MR, Rel gh MC MR → rS_day Rel gh MC MR) :
    ∀ (n t : Nat), L < t + 8 * n + 8 → t ≤ L + 8 → ∀ (ad : Nat → Nat) (gh : rC_gh) (MC MR : rv_Mem) (w : Int64) (H : Heap) (locs : List Loc) (ls : Array Slot) (cells slots : Nat), rl_W D cI cZ cO cJ ad2 de o a0 s.heap.size ad gh MC MR w H → Rel gh MC MR → va_S (fun q => s.heap.size ≤ q) s.heap H locs → rv_has ls [some (.ref b), some (.ref a0), some (.ref (ad2 67)), some (.ref o), some (.int (nI t)), none, none] → cells + 10 * n ≤ 601024 → slots + 199 * n ≤ 7293034 → W p l e room_1 s m #[.ref b] below meth c H locs cells slots (lw_Z below #[.ref b] s) (F0 m 23 ls []) := by
  intro n
  induction n with
  | zero =>
    intro t hn ht ad gh MC MR w H locs ls cells slots hW hR hS hl hc hs
    refine lv_iload E.1.1 E.1.2.1 dL_law_23 (hl.2.2 4 _ rfl) ?_
    refine lv_aload_n E.1.1 E.1.2.1 dL_law_25 rfl (hl.2.2 0 _ rfl) ?_
    refine va_slen E.1.1 E.1.2.1 E.2.2.2.2.2.2.2.2.1.1 E.2.2.2.2.2.2.2.2.1.2 (fun z => absurd E.2.2.2.2.2.2.2.2.1.2 (Nat.not_lt.mpr z)) hS dL_law_26 ?_
    refine lv_bipush (v := 8) E.1.1 E.1.2.1 dL_law_27 (by decide) ?_
    refine lv_isub E.1.1 E.1.2.1 dL_law_29 ?_
    refine lv_icmp_gt (tgt := 4018) E.1.1 E.1.2.1 dL_law_30 (by decide) (fun _ => ?_) (fun z => absurd ((rl_head hL (by omega)).mpr (by omega)) z)
    refine lv_iconst (v := 1) E.1.1 E.1.2.1 dL_law_4018 (by decide) ?_
    refine va_forget hS.2.2 ?_
    refine W.widen (k := 601024) (n := 7293034) (by omega) (by omega) ?_
    exact lw_ret E.1.1 E.1.2.1 hret hlk dL_law_4019
  | succ n ih =>
    intro t hn ht ad gh MC MR w H locs ls cells slots hW hR hS hl hc hs
    refine lv_iload E.1.1 E.1.2.1 dL_law_23 (hl.2.2 4 _ rfl) ?_
    refine lv_aload_n E.1.1 E.1.2.1 dL_law_25 rfl (hl.2.2 0 _ rfl) ?_
    refine va_slen E.1.1 E.1.2.1 E.2.2.2.2.2.2.2.2.1.1 E.2.2.2.2.2.2.2.2.1.2 (fun z => absurd E.2.2.2.2.2.2.2.2.1.2 (Nat.not_lt.mpr z)) hS dL_law_26 ?_
    refine lv_bipush (v := 8) E.1.1 E.1.2.1 dL_law_27 (by decide) ?_
    refine lv_isub E.1.1 E.1.2.1 dL_law_29 ?_
    refine lv_icmp_gt (tgt := 4018) E.1.1 E.1.2.1 dL_law_30 (by decide) (fun _ => ?_) (fun z => ?_)
    · refine lv_iconst (v := 1) E.1.1 E.1.2.1 dL_law_4018 (by decide) ?_
      refine va_forget hS.2.2 ?_
      refine W.widen (k := 601024) (n := 7293034) (by omega) (by omega) ?_
      exact lw_ret E.1.1 E.1.2.1 hret hlk dL_law_4019
    · have ht8 : t + 8 ≤ L := by
        have h9 : ¬ L < t + 8 := fun q => z ((rl_head hL (by omega)).mpr q)
        omega
      have kk : ∀ (ad : Nat → Nat) (gh : rC_gh) (MC MR : rv_Mem) (w : Int64) (H : Heap) (locs : List Loc) (ls : Array Slot), rl_W D cI cZ cO cJ ad2 de o a0 s.heap.size ad gh MC MR w H → Rel gh MC MR → va_S (fun q => s.heap.size ≤ q) s.heap H locs → rv_has ls [some (.ref b), some (.ref a0), some (.ref (ad2 67)), some (.ref o), some (.int (nI t)), none, none] → W p l e room_1 s m #[.ref b] below meth c H locs (cells + 10) (slots + 199) (lw_Z below #[.ref b] s) (F0 m 4012 ls []) := by
        intro ad gh MC MR w H locs ls hW hR hS hl
        have hm : (4, Value.int (nI t)) ∈ rv_kl [some (.ref b), some (.ref a0), some (.ref (ad2 67)), some (.ref o), some (.int (nI t)), none, none] := rv_kl_mem.mpr rfl
        obtain ⟨jj, hjj⟩ := List.getElem?_of_mem hm
        refine lv_iinc (n := 8) E.1.1 E.1.2.1 dL_law_4012 (rv_has_k hl) hjj rfl (Nat.le_of_ble_eq_true rfl) rfl (fun ls' hl' => ?_)
        have hl2 : rv_has ls' [some (.ref b), some (.ref a0), some (.ref (ad2 67)), some (.ref o), some (.int (nI t + Int32.ofInt 8)), none, none] := rv_has_set (i := 4) (Nat.le_of_ble_eq_true rfl) rfl hl'
        rw [show Int32.ofInt 8 = nI 8 by decide, nI_add] at hl2
        refine lv_goto (tgt := 23) E.1.1 E.1.2.1 dL_law_4015 (show ((4015 : Nat) : Int) + (-3992) = ((23 : Nat) : Int) by decide) ?_
        exact ih (t + 8) (by omega) (by omega) ad gh MC MR w H locs ls' (cells + 10) (slots + 199) hW hR hS hl2 (by omega) (by omega)
      have hcs : cells + 10 ≤ room_1.cells ∧ slots + 199 ≤ room_1.slots := ⟨by show cells + 10 ≤ 601024; omega, by show slots + 199 ≤ 7293034; omega⟩
      refine lv_aload_n E.1.1 E.1.2.1 dL_law_33 rfl (hl.2.2 0 _ rfl) ?_
      refine lv_iload E.1.1 E.1.2.1 dL_law_34 (hl.2.2 4 _ rfl) ?_
      refine va_sld E.1.1 E.1.2.1 E.2.2.2.2.2.2.2.2.1.1 E.2.2.2.2.2.2.2.2.1.2 (fun z => absurd E.2.2.2.2.2.2.2.2.1.2 (Nat.not_lt.mpr z)) hS (nI_in (show t < L by omega) (by omega)) dL_law_36 ?_
      refine lv_bipush (v := 63) E.1.1 E.1.2.1 dL_law_37 (by decide) ?_
      refine lv_iand E.1.1 E.1.2.1 dL_law_39 ?_
      obtain ⟨v, hv, he⟩ := pk_andE (xs (nI t).toNatClampNeg) (m := 63) 6 (by decide)
      have hv : v < 64 := hv
      rw [he]
      by_cases h53 : v < 53
      · match v, h53 with
        | 0, _ =>
          refine lv_tableIn (off := 228) (tgt := 268) E.1.1 E.1.2.1 dL_law_40 (by decide) (by decide) rfl (by decide) ?_
          exact lc_take E hW hS hl ht8 hL hcs (h_take gh MC MR hR _) kk
        | 1, _ =>
          refine lv_tableIn (off := 284) (tgt := 324) E.1.1 E.1.2.1 dL_law_40 (by decide) (by decide) rfl (by decide) ?_
          exact lc_takeSet E hW hS hl ht8 hL hcs (h_takeSet gh MC MR hR _ _) kk
        | 2, _ =>
          refine lv_tableIn (off := 352) (tgt := 392) E.1.1 E.1.2.1 dL_law_40 (by decide) (by decide) rfl (by decide) ?_
          exact lc_put E hW hS hl ht8 hL hcs (h_put gh MC MR hR _ _ _) kk
        | 3, _ =>
          refine lv_tableIn (off := 432) (tgt := 472) E.1.1 E.1.2.1 dL_law_40 (by decide) (by decide) rfl (by decide) ?_
          exact lc_cut E hW hS hl ht8 hL hcs (h_cut gh MC MR hR _ _) kk
        | 4, _ =>
          refine lv_tableIn (off := 500) (tgt := 540) E.1.1 E.1.2.1 dL_law_40 (by decide) (by decide) rfl (by decide) ?_
          exact lc_commits E hW hS hl ht8 hL hcs (h_commits gh MC MR hR) kk
        | 5, _ =>
          refine lv_tableIn (off := 513) (tgt := 553) E.1.1 E.1.2.1 dL_law_40 (by decide) (by decide) rfl (by decide) ?_
          exact lc_line E hW hS hl ht8 hL hcs (h_line gh MC MR hR _ _ _) kk
        | 6, _ =>
          refine lv_tableIn (off := 593) (tgt := 633) E.1.1 E.1.2.1 dL_law_40 (by decide) (by decide) rfl (by decide) ?_
          exact lc_before E hW hS hl ht8 hL hcs (h_before gh MC MR hR _) kk
        | 7, _ =>
          refine lv_tableIn (off := 649) (tgt := 689) E.1.1 E.1.2.1 dL_law_40 (by decide) (by decide) rfl (by decide) ?_
          exact lc_tip E hW hS hl ht8 hL hcs (h_tip gh MC MR hR _) kk
        | 8, _ =>
          refine lv_tableIn (off := 705) (tgt := 745) E.1.1 E.1.2.1 dL_law_40 (by decide) (by decide) rfl (by decide) ?_
          exact lc_namedAfter E hW hS hl ht8 hL hcs (h_namedAfter gh MC MR hR _) kk
        | 9, _ =>
          refine lv_tableIn (off := 761) (tgt := 801) E.1.1 E.1.2.1 dL_law_40 (by decide) (by decide) rfl (by decide) ?_
          exact lc_open E hW hS hl ht8 hL hcs (h_open gh MC MR hR _) kk
        | 10, _ =>
          refine lv_tableIn (off := 817) (tgt := 857) E.1.1 E.1.2.1 dL_law_40 (by decide) (by decide) rfl (by decide) ?_
          exact lc_upload E hW hS hl ht8 hL hcs (h_upload gh MC MR hR _ _) kk
        | 11, _ =>
          refine lv_tableIn (off := 885) (tgt := 925) E.1.1 E.1.2.1 dL_law_40 (by decide) (by decide) rfl (by decide) ?_
          exact lc_rebase E hW hS hl ht8 hL hcs (h_rebase gh MC MR hR _ _) kk
        | 12, _ =>
          refine lv_tableIn (off := 953) (tgt := 993) E.1.1 E.1.2.1 dL_law_40 (by decide) (by decide) rfl (by decide) ?_
          exact lc_abandon E hW hS hl ht8 hL hcs (h_abandon gh MC MR hR _ _) kk
        | 13, _ =>
          refine lv_tableIn (off := 1021) (tgt := 1061) E.1.1 E.1.2.1 dL_law_40 (by decide) (by decide) rfl (by decide) ?_
          exact lc_restore E hW hS hl ht8 hL hcs (h_restore gh MC MR hR _) kk
        | 14, _ =>
          refine lv_tableIn (off := 1077) (tgt := 1117) E.1.1 E.1.2.1 dL_law_40 (by decide) (by decide) rfl (by decide) ?_
          exact lc_setFlags E hW hS hl ht8 hL hcs (h_setFlags gh MC MR hR _ _ _) kk
        | 15, _ =>
          refine lv_tableIn (off := 1189) (tgt := 1229) E.1.1 E.1.2.1 dL_law_40 (by decide) (by decide) rfl (by decide) ?_
          exact lc_setTopic E hW hS hl ht8 hL hcs (h_setTopic gh MC MR hR _ _) kk
        | 16, _ =>
          refine lv_tableIn (off := 1257) (tgt := 1297) E.1.1 E.1.2.1 dL_law_40 (by decide) (by decide) rfl (by decide) ?_
          exact lc_changes E hW hS hl ht8 hL hcs (h_changes gh MC MR hR) kk
        | 17, _ =>
          refine lv_tableIn (off := 1270) (tgt := 1310) E.1.1 E.1.2.1 dL_law_40 (by decide) (by decide) rfl (by decide) ?_
          exact lc_stateOf E hW hS hl ht8 hL hcs (h_stateOf gh MC MR hR _) kk
        | 18, _ =>
          refine lv_tableIn (off := 1326) (tgt := 1366) E.1.1 E.1.2.1 dL_law_40 (by decide) (by decide) rfl (by decide) ?_
          exact lc_sets E hW hS hl ht8 hL hcs (h_sets gh MC MR hR _) kk
        | 19, _ =>
          refine lv_tableIn (off := 1382) (tgt := 1422) E.1.1 E.1.2.1 dL_law_40 (by decide) (by decide) rfl (by decide) ?_
          exact lc_commitOf E hW hS hl ht8 hL hcs (h_commitOf gh MC MR hR _ _) kk
        | 20, _ =>
          refine lv_tableIn (off := 1450) (tgt := 1490) E.1.1 E.1.2.1 dL_law_40 (by decide) (by decide) rfl (by decide) ?_
          exact lc_kindOf E hW hS hl ht8 hL hcs (h_kindOf gh MC MR hR _ _) kk
        | 21, _ =>
          refine lv_tableIn (off := 1518) (tgt := 1558) E.1.1 E.1.2.1 dL_law_40 (by decide) (by decide) rfl (by decide) ?_
          exact lc_parentOf E hW hS hl ht8 hL hcs (h_parentOf gh MC MR hR _) kk
        | 22, _ =>
          refine lv_tableIn (off := 1574) (tgt := 1614) E.1.1 E.1.2.1 dL_law_40 (by decide) (by decide) rfl (by decide) ?_
          exact lc_hunks E hW hS hl ht8 hL hcs (h_hunks gh MC MR hR _ _ _ _ _) kk
        | 23, _ =>
          refine lv_tableIn (off := 1694) (tgt := 1734) E.1.1 E.1.2.1 dL_law_40 (by decide) (by decide) rfl (by decide) ?_
          exact lc_hunkAt E hW hS hl ht8 hL hcs (h_hunkAt gh MC MR hR _ _ _ _ _ _) kk
        | 24, _ =>
          refine lv_tableIn (off := 1828) (tgt := 1868) E.1.1 E.1.2.1 dL_law_40 (by decide) (by decide) rfl (by decide) ?_
          exact lc_comment E hW hS hl ht8 hL hcs (h_comment gh MC MR hR _ _ _ _ _ _ _) kk
        | 25, _ =>
          refine lv_tableIn (off := 1976) (tgt := 2016) E.1.1 E.1.2.1 dL_law_40 (by decide) (by decide) rfl (by decide) ?_
          exact lc_answer E hW hS hl ht8 hL hcs (h_answer gh MC MR hR _ _ _) kk
        | 26, _ =>
          refine lv_tableIn (off := 2072) (tgt := 2112) E.1.1 E.1.2.1 dL_law_40 (by decide) (by decide) rfl (by decide) ?_
          exact lc_publish E hW hS hl ht8 hL hcs (h_publish gh MC MR hR _ _) kk
        | 27, _ =>
          refine lv_tableIn (off := 2140) (tgt := 2180) E.1.1 E.1.2.1 dL_law_40 (by decide) (by decide) rfl (by decide) ?_
          exact lc_shown E hW hS hl ht8 hL hcs (h_shown gh MC MR hR _ _) kk
        | 28, _ =>
          refine lv_tableIn (off := 2208) (tgt := 2248) E.1.1 E.1.2.1 dL_law_40 (by decide) (by decide) rfl (by decide) ?_
          exact lc_unresolved E hW hS hl ht8 hL hcs (h_unresolved gh MC MR hR _) kk
        | 29, _ =>
          refine lv_tableIn (off := 2264) (tgt := 2304) E.1.1 E.1.2.1 dL_law_40 (by decide) (by decide) rfl (by decide) ?_
          exact lc_find E hW hS hl ht8 hL hcs (h_find gh MC MR hR _ _ _ _ _ _) kk
        | 30, _ =>
          refine lv_tableIn (off := 2382) (tgt := 2422) E.1.1 E.1.2.1 dL_law_40 (by decide) (by decide) rfl (by decide) ?_
          exact lc_takeFixes E hW hS hl ht8 hL hcs (h_takeFixes gh MC MR hR _ _) kk
        | 31, _ =>
          refine lv_tableIn (off := 2450) (tgt := 2490) E.1.1 E.1.2.1 dL_law_40 (by decide) (by decide) rfl (by decide) ?_
          exact lc_setOwners E hW hS hl ht8 hL hcs (h_setOwners gh MC MR hR _ _ _ _) kk
        | 32, _ =>
          refine lv_tableIn (off := 2558) (tgt := 2598) E.1.1 E.1.2.1 dL_law_40 (by decide) (by decide) rfl (by decide) ?_
          exact lc_setInclude E hW hS hl ht8 hL hcs (h_setInclude gh MC MR hR _ _ _) kk
        | 33, _ =>
          refine lv_tableIn (off := 2661) (tgt := 2701) E.1.1 E.1.2.1 dL_law_40 (by decide) (by decide) rfl (by decide) ?_
          exact lc_setLastResort E hW hS hl ht8 hL hcs (h_setLastResort gh MC MR hR _) kk
        | 34, _ =>
          refine lv_tableIn (off := 2717) (tgt := 2757) E.1.1 E.1.2.1 dL_law_40 (by decide) (by decide) rfl (by decide) ?_
          exact lc_owners E hW hS hl ht8 hL hcs (h_owners gh MC MR hR _ _) kk
        | 35, _ =>
          refine lv_tableIn (off := 2785) (tgt := 2825) E.1.1 E.1.2.1 dL_law_40 (by decide) (by decide) rfl (by decide) ?_
          exact lc_fewest E hW hS hl ht8 hL hcs (h_fewest gh MC MR hR _) kk
        | 36, _ =>
          refine lv_tableIn (off := 2841) (tgt := 2881) E.1.1 E.1.2.1 dL_law_40 (by decide) (by decide) rfl (by decide) ?_
          exact lc_vote E hW hS hl ht8 hL hcs (h_vote gh MC MR hR _ _ _ _ _) kk
        | 37, _ =>
          refine lv_tableIn (off := 2945) (tgt := 2985) E.1.1 E.1.2.1 dL_law_40 (by decide) (by decide) rfl (by decide) ?_
          exact lc_worth E hW hS hl ht8 hL hcs (h_worth gh MC MR hR _ _ _ _) kk
        | 38, _ =>
          refine lv_tableIn (off := 3037) (tgt := 3077) E.1.1 E.1.2.1 dL_law_40 (by decide) (by decide) rfl (by decide) ?_
          exact lc_setCopied E hW hS hl ht8 hL hcs (h_setCopied gh MC MR hR _ _ _) kk
        | 39, _ =>
          refine lv_tableIn (off := 3117) (tgt := 3157) E.1.1 E.1.2.1 dL_law_40 (by decide) (by decide) rfl (by decide) ?_
          exact lc_addRule E hW hS hl ht8 hL hcs (h_addRule gh MC MR hR _ _ _) kk
        | 40, _ =>
          refine lv_tableIn (off := 3197) (tgt := 3237) E.1.1 E.1.2.1 dL_law_40 (by decide) (by decide) rfl (by decide) ?_
          exact lc_dropRule E hW hS hl ht8 hL hcs (h_dropRule gh MC MR hR _) kk
        | 41, _ =>
          refine lv_tableIn (off := 3253) (tgt := 3293) E.1.1 E.1.2.1 dL_law_40 (by decide) (by decide) rfl (by decide) ?_
          exact lc_statements E hW hS hl ht8 hL hcs (h_statements gh MC MR hR _) kk
        | 42, _ =>
          refine lv_tableIn (off := 3309) (tgt := 3349) E.1.1 E.1.2.1 dL_law_40 (by decide) (by decide) rfl (by decide) ?_
          exact lc_lacks E hW hS hl ht8 hL hcs (h_lacks gh MC MR hR _) kk
        | 43, _ =>
          refine lv_tableIn (off := 3365) (tgt := 3405) E.1.1 E.1.2.1 dL_law_40 (by decide) (by decide) rfl (by decide) ?_
          exact lc_setWay E hW hS hl ht8 hL hcs (h_setWay gh MC MR hR _ _) kk
        | 44, _ =>
          refine lv_tableIn (off := 3433) (tgt := 3473) E.1.1 E.1.2.1 dL_law_40 (by decide) (by decide) rfl (by decide) ?_
          exact lc_group E hW hS hl ht8 hL hcs (h_group gh MC MR hR _) kk
        | 45, _ =>
          refine lv_tableIn (off := 3489) (tgt := 3529) E.1.1 E.1.2.1 dL_law_40 (by decide) (by decide) rfl (by decide) ?_
          exact lc_land E hW hS hl ht8 hL hcs (h_land gh MC MR hR _ _) kk
        | 46, _ =>
          refine lv_tableIn (off := 3557) (tgt := 3597) E.1.1 E.1.2.1 dL_law_40 (by decide) (by decide) rfl (by decide) ?_
          exact lc_addReviewer E hW hS hl ht8 hL hcs (h_addReviewer gh MC MR hR _ _) kk
        | 47, _ =>
          refine lv_tableIn (off := 3632) (tgt := 3672) E.1.1 E.1.2.1 dL_law_40 (by decide) (by decide) rfl (by decide) ?_
          exact lc_reviewers E hW hS hl ht8 hL hcs (h_reviewers gh MC MR hR _) kk
        | 48, _ =>
          refine lv_tableIn (off := 3688) (tgt := 3728) E.1.1 E.1.2.1 dL_law_40 (by decide) (by decide) rfl (by decide) ?_
          exact lc_whoseTurn E hW hS hl ht8 hL hcs (h_whoseTurn gh MC MR hR _) kk
        | 49, _ =>
          refine lv_tableIn (off := 3744) (tgt := 3784) E.1.1 E.1.2.1 dL_law_40 (by decide) (by decide) rfl (by decide) ?_
          exact lc_watch E hW hS hl ht8 hL hcs (h_watch gh MC MR hR _ _ _) kk
        | 50, _ =>
          refine lv_tableIn (off := 3847) (tgt := 3887) E.1.1 E.1.2.1 dL_law_40 (by decide) (by decide) rfl (by decide) ?_
          exact lc_mails E hW hS hl ht8 hL hcs (h_mails gh MC MR hR _) kk
        | 51, _ =>
          refine lv_tableIn (off := 3903) (tgt := 3943) E.1.1 E.1.2.1 dL_law_40 (by decide) (by decide) rfl (by decide) ?_
          exact lc_advance E hW hS hl ht8 hL hcs (h_advance gh MC MR hR _) kk
        | 52, _ =>
          refine lv_tableIn (off := 3959) (tgt := 3999) E.1.1 E.1.2.1 dL_law_40 (by decide) (by decide) rfl (by decide) ?_
          exact lc_day E hW hS hl ht8 hL hcs (h_day gh MC MR hR) kk
        | v + 53, h => exact absurd h (by omega)
      · refine lv_tableOut (tgt := 4012) E.1.1 E.1.2.1 dL_law_40 (Or.inr ?_) (by decide) ?_
        · rw [nI_toInt (by omega)]; omega
        · refine W.widen (k := cells + 10) (n := slots + 199) (by omega) (by omega) ?_
          exact kk ad gh MC MR w H locs ls hW hR hS hl
