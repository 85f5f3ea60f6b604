/-! the law: which call, and one after another -/
set_option maxHeartbeats 4000000 in
set_option maxRecDepth 100000 in
theorem law_any {p : Program} {l : Launch} {e : Env} {s : State} {m : MethodId} {below : List Frame} {meth : Method} {c : Code} {b L : Nat} {xs : Nat → Int32} {D : va_G} {cy : Nat → ClassId} {sa va adX adM : Nat → Nat} {a b1 : Bool} {I : qI} {J : qJ} {A : qI} {B : qJ} {H : Heap} {cells slots : Nat} {Q : State → Prop} {ls : Array Slot} {i : Int32} (C : lwC p s m c b L xs D cy sa va) (hi : lwI i L) (hl : lv_has ls 4 [(3, .int i), (2, .ref (adM 0)), (1, .ref (adX 0)), (0, .ref b)]) (hw : lwW s D cy adX adM a b1 I J A B H) (hR : Rel (b2i a, b2i b1) I J A B) (hc : cells + 40 ≤ 600000 ∧ slots + 4180 ≤ 7302250)
    (kk : ∀ (a b1 : Bool) (adM1 : Nat → Nat) (I : qI) (J : qJ) (A : qI) (B : qJ) (H : Heap), adM1 0 = adM 0 → lwW s D cy adX adM1 a b1 I J A B H → Rel (b2i a, b2i b1) I J A B → W p l e room_1 s m #[.ref b] below meth c H [] (cells + 40) (slots + 4180) Q (F0 m 1758 ls [])) (v : Int32) : W p l e room_1 s m #[.ref b] below meth c H [] cells slots Q (F0 m 33 ls [.int v]) := by
  have hx := C.1.1
  have hb := C.1.2.1
  by_cases h0 : v.toInt < 0 ∨ 56 < v.toInt
  · refine lv_tableOut (tgt := 1758) hx hb dL_law_33 h0 (by decide) ?_
    exact W.widen (k := cells + 40) (n := slots + 4180) (Nat.le_add_right _ _) (Nat.le_add_right _ _) (kk _ _ _ _ _ _ _ _ rfl hw hR)
  obtain ⟨k, hk, ek⟩ : ∃ k : Nat, k < 58 ∧ v.toInt = (k : Int) := ⟨v.toInt.toNat, by omega, by omega⟩
  rcases q_cs58 k hk with rfl | rfl | rfl | rfl | rfl | rfl | rfl | rfl | rfl | rfl | rfl | rfl | rfl | rfl | rfl | rfl | rfl | rfl | rfl | rfl | rfl | rfl | rfl | rfl | rfl | rfl | rfl | rfl | rfl | rfl | rfl | rfl | rfl | rfl | rfl | rfl | rfl | rfl | rfl | rfl | rfl | rfl | rfl | rfl | rfl | rfl | rfl | rfl | rfl | rfl | rfl | rfl | rfl | rfl | rfl | rfl | rfl | rfl
  · refine lv_tableIn (off := 243) (tgt := 276) hx hb dL_law_33 (by rw [ek]; decide) (by rw [ek]; decide) (by rw [ek]; rfl) (by decide) ?_
    exact law_0 C hi hl hw hR hc kk
  · refine lv_tableIn (off := 286) (tgt := 319) hx hb dL_law_33 (by rw [ek]; decide) (by rw [ek]; decide) (by rw [ek]; rfl) (by decide) ?_
    exact law_1 C hi hl hw hR hc kk
  · refine lv_tableIn (off := 359) (tgt := 392) hx hb dL_law_33 (by rw [ek]; decide) (by rw [ek]; decide) (by rw [ek]; rfl) (by decide) ?_
    exact law_2 C hi hl hw hR hc kk
  · refine lv_tableIn (off := 422) (tgt := 455) hx hb dL_law_33 (by rw [ek]; decide) (by rw [ek]; decide) (by rw [ek]; rfl) (by decide) ?_
    exact law_3 C hi hl hw hR hc kk
  · refine lv_tableIn (off := 456) (tgt := 489) hx hb dL_law_33 (by rw [ek]; decide) (by rw [ek]; decide) (by rw [ek]; rfl) (by decide) ?_
    exact law_4 C hi hl hw hR hc kk
  · refine lv_tableIn (off := 479) (tgt := 512) hx hb dL_law_33 (by rw [ek]; decide) (by rw [ek]; decide) (by rw [ek]; rfl) (by decide) ?_
    exact law_5 C hi hl hw hR hc kk
  · refine lv_tableIn (off := 512) (tgt := 545) hx hb dL_law_33 (by rw [ek]; decide) (by rw [ek]; decide) (by rw [ek]; rfl) (by decide) ?_
    exact law_6 C hi hl hw hR hc kk
  · refine lv_tableIn (off := 545) (tgt := 578) hx hb dL_law_33 (by rw [ek]; decide) (by rw [ek]; decide) (by rw [ek]; rfl) (by decide) ?_
    exact law_7 C hi hl hw hR hc kk
  · refine lv_tableIn (off := 598) (tgt := 631) hx hb dL_law_33 (by rw [ek]; decide) (by rw [ek]; decide) (by rw [ek]; rfl) (by decide) ?_
    exact law_8 C hi hl hw hR hc kk
  · refine lv_tableIn (off := 641) (tgt := 674) hx hb dL_law_33 (by rw [ek]; decide) (by rw [ek]; decide) (by rw [ek]; rfl) (by decide) ?_
    exact law_9 C hi hl hw hR hc kk
  · refine lv_tableIn (off := 684) (tgt := 717) hx hb dL_law_33 (by rw [ek]; decide) (by rw [ek]; decide) (by rw [ek]; rfl) (by decide) ?_
    exact law_10 C hi hl hw hR hc kk
  · refine lv_tableIn (off := 717) (tgt := 750) hx hb dL_law_33 (by rw [ek]; decide) (by rw [ek]; decide) (by rw [ek]; rfl) (by decide) ?_
    exact law_11 C hi hl hw hR hc kk
  · refine lv_tableIn (off := 740) (tgt := 773) hx hb dL_law_33 (by rw [ek]; decide) (by rw [ek]; decide) (by rw [ek]; rfl) (by decide) ?_
    exact law_12 C hi hl hw hR hc kk
  · refine lv_tableIn (off := 753) (tgt := 786) hx hb dL_law_33 (by rw [ek]; decide) (by rw [ek]; decide) (by rw [ek]; rfl) (by decide) ?_
    exact law_13 C hi hl hw hR hc kk
  · refine lv_tableIn (off := 766) (tgt := 799) hx hb dL_law_33 (by rw [ek]; decide) (by rw [ek]; decide) (by rw [ek]; rfl) (by decide) ?_
    exact law_14 C hi hl hw hR hc kk
  · refine lv_tableIn (off := 799) (tgt := 832) hx hb dL_law_33 (by rw [ek]; decide) (by rw [ek]; decide) (by rw [ek]; rfl) (by decide) ?_
    exact law_15 C hi hl hw hR hc kk
  · refine lv_tableIn (off := 822) (tgt := 855) hx hb dL_law_33 (by rw [ek]; decide) (by rw [ek]; decide) (by rw [ek]; rfl) (by decide) ?_
    exact law_16 C hi hl hw hR hc kk
  · refine lv_tableIn (off := 845) (tgt := 878) hx hb dL_law_33 (by rw [ek]; decide) (by rw [ek]; decide) (by rw [ek]; rfl) (by decide) ?_
    exact law_17 C hi hl hw hR hc kk
  · refine lv_tableIn (off := 868) (tgt := 901) hx hb dL_law_33 (by rw [ek]; decide) (by rw [ek]; decide) (by rw [ek]; rfl) (by decide) ?_
    exact law_18 C hi hl hw hR hc kk
  · refine lv_tableIn (off := 891) (tgt := 924) hx hb dL_law_33 (by rw [ek]; decide) (by rw [ek]; decide) (by rw [ek]; rfl) (by decide) ?_
    exact law_19 C hi hl hw hR hc kk
  · refine lv_tableIn (off := 904) (tgt := 937) hx hb dL_law_33 (by rw [ek]; decide) (by rw [ek]; decide) (by rw [ek]; rfl) (by decide) ?_
    exact law_20 C hi hl hw hR hc kk
  · refine lv_tableIn (off := 917) (tgt := 950) hx hb dL_law_33 (by rw [ek]; decide) (by rw [ek]; decide) (by rw [ek]; rfl) (by decide) ?_
    exact law_21 C hi hl hw hR hc kk
  · refine lv_tableIn (off := 940) (tgt := 973) hx hb dL_law_33 (by rw [ek]; decide) (by rw [ek]; decide) (by rw [ek]; rfl) (by decide) ?_
    exact law_22 C hi hl hw hR hc kk
  · refine lv_tableIn (off := 963) (tgt := 996) hx hb dL_law_33 (by rw [ek]; decide) (by rw [ek]; decide) (by rw [ek]; rfl) (by decide) ?_
    exact law_23 C hi hl hw hR hc kk
  · refine lv_tableIn (off := 986) (tgt := 1019) hx hb dL_law_33 (by rw [ek]; decide) (by rw [ek]; decide) (by rw [ek]; rfl) (by decide) ?_
    exact law_24 C hi hl hw hR hc kk
  · refine lv_tableIn (off := 1009) (tgt := 1042) hx hb dL_law_33 (by rw [ek]; decide) (by rw [ek]; decide) (by rw [ek]; rfl) (by decide) ?_
    exact law_25 C hi hl hw hR hc kk
  · refine lv_tableIn (off := 1022) (tgt := 1055) hx hb dL_law_33 (by rw [ek]; decide) (by rw [ek]; decide) (by rw [ek]; rfl) (by decide) ?_
    exact law_26 C hi hl hw hR hc kk
  · refine lv_tableIn (off := 1045) (tgt := 1078) hx hb dL_law_33 (by rw [ek]; decide) (by rw [ek]; decide) (by rw [ek]; rfl) (by decide) ?_
    exact law_27 C hi hl hw hR hc kk
  · refine lv_tableIn (off := 1068) (tgt := 1101) hx hb dL_law_33 (by rw [ek]; decide) (by rw [ek]; decide) (by rw [ek]; rfl) (by decide) ?_
    exact law_28 C hi hl hw hR hc kk
  · refine lv_tableIn (off := 1111) (tgt := 1144) hx hb dL_law_33 (by rw [ek]; decide) (by rw [ek]; decide) (by rw [ek]; rfl) (by decide) ?_
    exact law_29 C hi hl hw hR hc kk
  · refine lv_tableIn (off := 1154) (tgt := 1187) hx hb dL_law_33 (by rw [ek]; decide) (by rw [ek]; decide) (by rw [ek]; rfl) (by decide) ?_
    exact law_30 C hi hl hw hR hc kk
  · refine lv_tableIn (off := 1167) (tgt := 1200) hx hb dL_law_33 (by rw [ek]; decide) (by rw [ek]; decide) (by rw [ek]; rfl) (by decide) ?_
    exact law_31 C hi hl hw hR hc kk
  · refine lv_tableIn (off := 1190) (tgt := 1223) hx hb dL_law_33 (by rw [ek]; decide) (by rw [ek]; decide) (by rw [ek]; rfl) (by decide) ?_
    exact law_32 C hi hl hw hR hc kk
  · refine lv_tableIn (off := 1213) (tgt := 1246) hx hb dL_law_33 (by rw [ek]; decide) (by rw [ek]; decide) (by rw [ek]; rfl) (by decide) ?_
    exact law_33 C hi hl hw hR hc kk
  · refine lv_tableIn (off := 1236) (tgt := 1269) hx hb dL_law_33 (by rw [ek]; decide) (by rw [ek]; decide) (by rw [ek]; rfl) (by decide) ?_
    exact law_34 C hi hl hw hR hc kk
  · refine lv_tableIn (off := 1259) (tgt := 1292) hx hb dL_law_33 (by rw [ek]; decide) (by rw [ek]; decide) (by rw [ek]; rfl) (by decide) ?_
    exact law_35 C hi hl hw hR hc kk
  · refine lv_tableIn (off := 1272) (tgt := 1305) hx hb dL_law_33 (by rw [ek]; decide) (by rw [ek]; decide) (by rw [ek]; rfl) (by decide) ?_
    exact law_36 C hi hl hw hR hc kk
  · refine lv_tableIn (off := 1295) (tgt := 1328) hx hb dL_law_33 (by rw [ek]; decide) (by rw [ek]; decide) (by rw [ek]; rfl) (by decide) ?_
    exact law_37 C hi hl hw hR hc kk
  · refine lv_tableIn (off := 1308) (tgt := 1341) hx hb dL_law_33 (by rw [ek]; decide) (by rw [ek]; decide) (by rw [ek]; rfl) (by decide) ?_
    exact law_38 C hi hl hw hR hc kk
  · refine lv_tableIn (off := 1331) (tgt := 1364) hx hb dL_law_33 (by rw [ek]; decide) (by rw [ek]; decide) (by rw [ek]; rfl) (by decide) ?_
    exact law_39 C hi hl hw hR hc kk
  · refine lv_tableIn (off := 1344) (tgt := 1377) hx hb dL_law_33 (by rw [ek]; decide) (by rw [ek]; decide) (by rw [ek]; rfl) (by decide) ?_
    exact law_40 C hi hl hw hR hc kk
  · refine lv_tableIn (off := 1357) (tgt := 1390) hx hb dL_law_33 (by rw [ek]; decide) (by rw [ek]; decide) (by rw [ek]; rfl) (by decide) ?_
    exact law_41 C hi hl hw hR hc kk
  · refine lv_tableIn (off := 1370) (tgt := 1403) hx hb dL_law_33 (by rw [ek]; decide) (by rw [ek]; decide) (by rw [ek]; rfl) (by decide) ?_
    exact law_42 C hi hl hw hR hc kk
  · refine lv_tableIn (off := 1383) (tgt := 1416) hx hb dL_law_33 (by rw [ek]; decide) (by rw [ek]; decide) (by rw [ek]; rfl) (by decide) ?_
    exact law_43 C hi hl hw hR hc kk
  · refine lv_tableIn (off := 1416) (tgt := 1449) hx hb dL_law_33 (by rw [ek]; decide) (by rw [ek]; decide) (by rw [ek]; rfl) (by decide) ?_
    exact law_44 C hi hl hw hR hc kk
  · refine lv_tableIn (off := 1439) (tgt := 1472) hx hb dL_law_33 (by rw [ek]; decide) (by rw [ek]; decide) (by rw [ek]; rfl) (by decide) ?_
    exact law_45 C hi hl hw hR hc kk
  · refine lv_tableIn (off := 1462) (tgt := 1495) hx hb dL_law_33 (by rw [ek]; decide) (by rw [ek]; decide) (by rw [ek]; rfl) (by decide) ?_
    exact law_46 C hi hl hw hR hc kk
  · refine lv_tableIn (off := 1485) (tgt := 1518) hx hb dL_law_33 (by rw [ek]; decide) (by rw [ek]; decide) (by rw [ek]; rfl) (by decide) ?_
    exact law_47 C hi hl hw hR hc kk
  · refine lv_tableIn (off := 1508) (tgt := 1541) hx hb dL_law_33 (by rw [ek]; decide) (by rw [ek]; decide) (by rw [ek]; rfl) (by decide) ?_
    exact law_48 C hi hl hw hR hc kk
  · refine lv_tableIn (off := 1541) (tgt := 1574) hx hb dL_law_33 (by rw [ek]; decide) (by rw [ek]; decide) (by rw [ek]; rfl) (by decide) ?_
    exact law_49 C hi hl hw hR hc kk
  · refine lv_tableIn (off := 1584) (tgt := 1617) hx hb dL_law_33 (by rw [ek]; decide) (by rw [ek]; decide) (by rw [ek]; rfl) (by decide) ?_
    exact law_50 C hi hl hw hR hc kk
  · refine lv_tableIn (off := 1607) (tgt := 1640) hx hb dL_law_33 (by rw [ek]; decide) (by rw [ek]; decide) (by rw [ek]; rfl) (by decide) ?_
    exact law_51 C hi hl hw hR hc kk
  · refine lv_tableIn (off := 1630) (tgt := 1663) hx hb dL_law_33 (by rw [ek]; decide) (by rw [ek]; decide) (by rw [ek]; rfl) (by decide) ?_
    exact law_52 C hi hl hw hR hc kk
  · refine lv_tableIn (off := 1653) (tgt := 1686) hx hb dL_law_33 (by rw [ek]; decide) (by rw [ek]; decide) (by rw [ek]; rfl) (by decide) ?_
    exact law_53 C hi hl hw hR hc kk
  · refine lv_tableIn (off := 1676) (tgt := 1709) hx hb dL_law_33 (by rw [ek]; decide) (by rw [ek]; decide) (by rw [ek]; rfl) (by decide) ?_
    exact law_54 C hi hl hw hR hc kk
  · refine lv_tableIn (off := 1689) (tgt := 1722) hx hb dL_law_33 (by rw [ek]; decide) (by rw [ek]; decide) (by rw [ek]; rfl) (by decide) ?_
    exact law_55 C hi hl hw hR hc kk
  · refine lv_tableIn (off := 1702) (tgt := 1735) hx hb dL_law_33 (by rw [ek]; decide) (by rw [ek]; decide) (by rw [ek]; rfl) (by decide) ?_
    exact law_56 C hi hl hw hR hc kk
  · exact absurd (Or.inr (by rw [ek]; decide)) h0
theorem lw_more {n L : Nat} (h : n ≤ 3072) (hL : L ≤ 3072) (cc : ¬ (Int32.ofNat L - 6 < nI n)) : n + 6 ≤ L := by
  by_cases h6 : 6 ≤ L
  · have e : Int32.ofNat L - 6 = nI (L - 6) := pk_sub (a := L) (b := 6) h6
    rw [e] at cc
    by_cases z : L - 6 < n
    · exact absurd (nI_lt z (by omega)) cc
    · omega
  · exfalso
    have e : Int32.ofNat L - 6 < 0 := pk_sneg (a := L) (b := 6) (by decide) (by omega)
    exact cc (Int32.lt_of_lt_of_le e (Int32.not_lt.mp (nI_pos (by omega))))
theorem lw_nIin {n k L : Nat} (h : n + k < L) (hL : L ≤ 3072) : vp_in (nI n + nI k) L := by
  rw [nI_add]
  exact qin_n h (by omega)
set_option maxHeartbeats 4000000 in
set_option maxRecDepth 100000 in
theorem law_loop {p : Program} {l : Launch} {e : Env} {s : State} {m : MethodId} {below : List Frame} {meth : Method} {c : Code} {b L : Nat} {xs : Nat → Int32} {D : va_G} {cy : Nat → ClassId} {sa va adX : Nat → Nat} {M0 : Nat} (C : lwC p s m c b L xs D cy sa va) (hr : meth.sig.returnType = ret) (hlocks : meth.locks = false) (hL : L ≤ 3072) : ∀ (f n : Nat), n ≤ 512 → 512 - n < f → ∀ (a b1 : Bool) (adM : Nat → Nat) (I : qI) (J : qJ) (A : qI) (B : qJ) (H : Heap) (ls : Array Slot), adM 0 = M0 → lv_has ls 4 [(3, .int (nI (6 * n))), (2, .ref M0), (1, .ref (adX 0)), (0, .ref b)] → lwW s D cy adX adM a b1 I J A B H → Rel (b2i a, b2i b1) I J A B →
    W p l e room_1 s m #[.ref b] below meth c H [] (98 + 40 * n) (6743 + 4180 * n) (lw_Z below #[Value.ref b] s) (F0 m 18 ls []) := by
  have hx := C.1.1
  have hb := C.1.2.1
  have hX := C.2.1.1
  have hbl := C.2.1.2
  intro f
  induction f with
  | zero => intro n _ h; omega
  | succ f ih =>
    intro n hn hf a b1 adM I J A B H ls h0 hl hw hR
    refine lv_iload_n hx hb dL_law_18 rfl (lv_at hl 0 rfl) ?_
    refine lv_aload_n hx hb dL_law_19 rfl (lv_at hl 3 rfl) ?_
    refine va_slen hx hb hX hbl (Nat.not_le.mpr hbl) hw.S dL_law_20 ?_
    refine lv_bipush (v := 6) hx hb dL_law_21 (by decide) ?_
    refine lv_isub hx hb dL_law_23 ?_
    refine lv_icmp_gt (tgt := 1764) hx hb dL_law_24 (by decide) (fun _ => ?_) (fun cc => ?_)
    · refine lv_iconst (v := 1) hx hb dL_law_1764 (by decide) ?_
      refine W.widen (k := 600000) (n := 7302250) (by omega) (by omega) ?_
      exact lw_ret hx hb hr hlocks dL_law_1765
    · have hlt : 6 * n + 6 ≤ L := lw_more (by omega) hL cc
      have hi : lwI (nI (6 * n)) L := ⟨lw_nIin (k := 1) (by omega) hL, lw_nIin (k := 2) (by omega) hL, lw_nIin (k := 3) (by omega) hL, lw_nIin (k := 4) (by omega) hL, lw_nIin (k := 5) (by omega) hL⟩
      refine lv_aload_n hx hb dL_law_27 rfl (lv_at hl 3 rfl) ?_
      refine lv_iload_n hx hb dL_law_28 rfl (lv_at hl 0 rfl) ?_
      refine va_sld hx hb hX hbl (Nat.not_le.mpr hbl) hw.S (qin_n (show 6 * n < L by omega) (by omega)) dL_law_29 ?_
      refine lv_bipush (v := 63) hx hb dL_law_30 (by decide) ?_
      refine lv_iand hx hb dL_law_32 ?_
      subst h0
      refine law_any C hi hl hw hR ⟨by omega, by omega⟩ (fun a2 b2 adM1 I1 J1 A1 B1 H1 e0 hw1 hR1 => ?_) _
      refine lv_iinc (v := nI (6 * (n + 1))) (lv' := [(3, .int (nI (6 * (n + 1)))), (2, .ref (adM 0)), (1, .ref (adX 0)), (0, .ref b)]) hx hb dL_law_1758 hl (k := 0) rfl (Eq.trans (by rw [show Int32.ofInt 6 = nI 6 from by decide, nI_add]) (congrArg nI (show 6 * n + 6 = 6 * (n + 1) by omega))) (by decide) rfl (fun ls hl => ?_)
      refine lv_goto (tgt := 18) hx hb dL_law_1761 (by decide) ?_
      exact ih (n + 1) (by omega) (by omega) a2 b2 adM1 I1 J1 A1 B1 H1 ls e0 hl hw1 hR1
