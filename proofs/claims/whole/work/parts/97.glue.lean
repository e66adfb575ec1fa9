/-! the law's walk out of the interpreter's word for it -/
theorem nest_lw : ∀ w ∈ nNst, w ∈ lw_tbl := fun w hw => (List.mem_filter.mp hw).1
def lwAt (i : Nat) (w : Cond) : Bool := decide (lw_tbl[i]? = some w)
theorem lwAt_in {i : Nat} {w : Cond} (h : lwAt i w = true) : w ∈ lw_tbl := List.mem_of_getElem? (by simpa [lwAt] using h)
theorem ao_w : lwAt 121 (.arrayOver (.object "NumberedText$Item")) = true ∧ lwAt 235 (.arrayOver (.object "NumberedText$Text")) = true ∧ lwAt 271 (.arrayOver (.array .int)) = true := by decide +kernel
theorem ls_w : lwAt 604 (.laysStatic "NumberedText$Saying" "ROMAN_LETTERS" "[I") = true ∧ lwAt 97 (.initialized "NumberedText$Saying") = true ∧ lwAt 687 (.laysStatic "NumberedText$Layout" "HEADING_LINES" "[I") = true ∧ lwAt 92 (.initialized "NumberedText$Layout") = true ∧ lwAt 1027 (.laysStatic "java/lang/String" "COMPACT_STRINGS" "Z") = true ∧ lwAt 102 (.initialized "java/lang/String") = true ∧ lwAt 1043 (.laysStatic "jdk/internal/util/Preconditions" "SIOOBE_FORMATTER" "Ljava/util/function/BiFunction;") = true ∧ lwAt 104 (.initialized "jdk/internal/util/Preconditions") = true := by decide +kernel
theorem inst_all : ((List.range 11).all fun k => match nCl[k]?, nInP[k]? with
  | some q, some z => wAt z.1 (.instantiable q.1 q.2.2)
  | _, _ => false) = true := by decide +kernel
theorem sr_all : ((nSx.zip ([1013, 1086, 1091, 1102, 1104, 1110, 1111, 1112, 1103, 1109, 1100, 1101] : List Nat)).all fun q => lwAt q.2 (.stringRef "NumberedText$Reader" q.1.1 q.1.2.1)) = true := by decide +kernel
theorem sr_in (q : Nat × String × Nat) (hq : q ∈ nSx) : Cond.stringRef "NumberedText$Reader" q.1 q.2.1 ∈ lw_tbl := by
  obtain ⟨k, hk⟩ := List.getElem?_of_mem hq
  have hl := (List.getElem?_eq_some_iff.mp hk).1
  have hl2 : k < ([1013, 1086, 1091, 1102, 1104, 1110, 1111, 1112, 1103, 1109, 1100, 1101] : List Nat).length := hl
  have h1 : (nSx.zip ([1013, 1086, 1091, 1102, 1104, 1110, 1111, 1112, 1103, 1109, 1100, 1101] : List Nat))[k]? = some (q, ([1013, 1086, 1091, 1102, 1104, 1110, 1111, 1112, 1103, 1109, 1100, 1101] : List Nat)[k]) := by rw [List.getElem?_zip_eq_some]; exact ⟨hk, List.getElem?_eq_getElem hl2⟩
  exact lwAt_in (List.all_eq_true.mp sr_all _ (List.mem_of_getElem? h1))
theorem getD_map0 {l : List Int} {j : Nat} : (l.map Int32.ofInt).getD j 0 = Int32.ofInt (l.getD j 0) := by
  rw [List.getD_eq_getElem?_getD, List.getD_eq_getElem?_getD, List.getElem?_map]
  cases l[j]? <;> rfl
theorem sB_get {i j : Nat} : (sB.getD i []).getD j 0 = Int32.ofInt ((nStB.getD i []).getD j 0) := by
  have e : sB.getD i [] = (nStB.getD i []).map Int32.ofInt := by
    unfold sB
    rw [List.getD_eq_getElem?_getD, List.getD_eq_getElem?_getD, List.getElem?_map]
    cases nStB[i]? <;> rfl
  rw [e, getD_map0]
theorem sx_ok : (nSx.all fun q => decide (q.2.2 < 12) && decide (sE.getD q.2.2 0 = q.1)) = true := by decide
set_option maxRecDepth 100000 in
set_option maxHeartbeats 4000000 in
theorem whole_open (hlaw : ∀ (L : Nat) (xs : Nat → Int32), L ≤ 2560 → ∃ n, wp n 0 0 (mkL 4 [.inr (.inr (some 0))]) [] (hp0 L xs) 0 0 (fun v _ => v = some (.inl 1))) {p : Program} {e : Env} {s : State} {m : MethodId} {below : List Frame} {meth : Method} {c : Code} (l : Launch) {b L : Nat} {xs : Nat → Int32} (hL : L ≤ 2560) (C0 : lw_At p s m meth c b L xs) : W p l e room_1 s m #[Value.ref b] below meth c s.heap [] 0 0 (lw_Z below #[Value.ref b] s) (entryFrame m ([Value.ref b] : List Value).toArray 4) := by
  obtain ⟨hx, hb, hr, hml, hown, hts, hX, hbl, hlocks, hgv⟩ := id C0
  have hfl := flat_of_before _ hgv
  have hA : ∀ q : Nat, s.heap.size ≤ q → (fun q : Nat => s.heap.size ≤ q) q := fun _ h => h
  have hnA : ∀ a : Nat, a < s.heap.size → ¬ (fun q : Nat => s.heap.size ≤ q) a := fun a ha => Nat.not_le.mpr ha
  have hts0 : ∀ w ∈ nW0, w.before #[Value.ref b] s = true := fun w hw => hts w (List.mem_filter.mp hw).1
  obtain ⟨dC, dI, hKc⟩ : ∃ (dC : Nat → ClassId) (dI : Nat → Nat → Nat), ∀ (k : Nat) (q : vw_C), nCl[k]? = some q → u_Kn s q.1 q.2.1 q.2.2 (dC k) (dI k) := by
    have h0 : ∀ k : Nat, ∃ x : ClassId × (Nat → Nat), ∀ q : vw_C, nCl[k]? = some q → u_Kn s q.1 q.2.1 q.2.2 x.1 x.2 := fun k => by
      cases hq : nCl[k]? with
      | none => exact ⟨(0, fun _ => 0), fun q h => by cases h⟩
      | some q =>
        have hin : (Cond.instantiable q.1 q.2.2).before #[Value.ref b] s = true := by
          obtain ⟨ip, hip⟩ : ∃ ip, wAt ip (.instantiable q.1 q.2.2) = true := by
            have hk := nCl_lt hq
            have h9 := List.all_eq_true.mp inst_all k (List.mem_range.mpr hk)
            rw [hq] at h9
            cases h8 : nInP[k]? with
            | none => rw [h8] at h9; cases h9
            | some z => rw [h8] at h9; exact ⟨z.1, h9⟩
          exact hts0 _ (wAt_in hip)
        obtain ⟨c0, i0, h1⟩ := u_known (C := q.1) (T := q.2.1) (N := q.2.2) (n := q.2.2) hts0 (cl_in k q hq) hin
        exact ⟨(c0, i0), fun q' h' => by cases h'; exact h1⟩
    obtain ⟨f, hf⟩ := Classical.axiomOfChoice h0
    exact ⟨fun k => (f k).1, fun k => (f k).2, fun k q hq => hf k q hq⟩
  have hao1 : va_AO "NumberedText$Item" s := va_AO.of (hts _ (lwAt_in ao_w.1))
  have hao2 : va_AO "NumberedText$Text" s := va_AO.of (hts _ (lwAt_in ao_w.2.1))
  have hao3 : va_AOa .int s := hts _ (lwAt_in ao_w.2.2)
  obtain ⟨cI, hI1, hI2⟩ := arr_known (hts0 _ (wAt_in ac_w.1)) (fun C h => by cases h)
  obtain ⟨cZ, hZ1, hZ2⟩ := arr_known (hts0 _ (wAt_in ac_w.2.1)) (fun C h => by cases h)
  obtain ⟨cJ, hJ1, hJ2⟩ := arr_known (hts0 _ (wAt_in ac_w.2.2.1)) (fun C h => by cases h)
  obtain ⟨cT, hT1, hT2⟩ := arrO_known hao1
  obtain ⟨cU, hU1, hU2⟩ := arrO_known hao2
  obtain ⟨cG, hG1, hG2⟩ := arrA_known hao3
  obtain ⟨E, hE0, hE1, hE2, hE3, hE4, hE5⟩ : ∃ E : Nat → ClassId, E 100 = cI ∧ E 101 = cZ ∧ E 102 = cJ ∧ E 110 = cT ∧ E 111 = cU ∧ E 112 = cG := ⟨fun k => if k = 100 then cI else if k = 101 then cZ else if k = 102 then cJ else if k = 110 then cT else if k = 111 then cU else cG, rfl, rfl, rfl, rfl, rfl, rfl⟩
  have hK : va_K (dC, dI) nCl (nTy E) s := by
    refine ⟨hKc, fun k q hq => ?_⟩
    match k, hq with
    | 0, hq => cases hq; rw [hE0]; exact ⟨hI1, hI2⟩
    | 1, hq => cases hq; rw [hE1]; exact ⟨hZ1, hZ2⟩
    | 2, hq => cases hq; rw [hE2]; exact ⟨hJ1, hJ2⟩
    | 3, hq => cases hq; rw [hE3]; exact ⟨hT1, hT2⟩
    | 4, hq => cases hq; rw [hE4]; exact ⟨hU1, hU2⟩
    | 5, hq => cases hq; rw [hE5]; exact ⟨hG1, hG2⟩
    | k + 6, hq => cases hq
  obtain ⟨tR, htR, hTR⟩ := va_Tof (A := fun q : Nat => s.heap.size ≤ q) (f := fun j => .int (Int32.ofInt (([0, 1, 2, 3, 2, 1, 2, 3, 4, 2] : List Int).getD j 0))) (show 10 < 2 ^ 31 by decide) (hfl _ sx_7.1) (va_eqt (hfl _ sx_7.2.1)) (fun j hj => va_eqt (hfl _ (sx_7.2.2 j hj))) hnA
  obtain ⟨tH, htH, hTH⟩ := va_Tof (A := fun q : Nat => s.heap.size ≤ q) (f := fun j => .int (Int32.ofInt (([3, 2, 1, 1] : List Int).getD j 0))) (show 4 < 2 ^ 31 by decide) (hfl _ sx_8.1) (va_eqt (hfl _ sx_8.2.1)) (fun j hj => va_eqt (hfl _ (sx_8.2.2 j hj))) hnA
  obtain ⟨adK, adV, hvk, hev⟩ := vk_Sof (args := #[Value.ref b]) (s := s) (N := 12) (tm := sT) (len := sLn) (byt := sB) (A := fun q : Nat => s.heap.size ≤ q) (by decide) (fun i hi => hfl _ (sx_1 i hi)) (fun i hi => hfl _ (sx_2 i hi)) (fun i hi => hfl _ (sx_3 i hi)) (fun i hi => hfl _ (sx_4 i hi)) (fun i hi j hj => hfl _ (sx_5 i hi j hj)) (fun i j hi hj hij => (sx_6 i hi j hj hij).elim (fun h => Or.inl (hfl _ h)) (fun h => Or.inr (hfl _ h))) hnA
  have hz1 := va_Zref (A := fun q : Nat => s.heap.size ≤ q) (hts _ (lwAt_in ls_w.1)) (hts _ (lwAt_in ls_w.2.1)) htR hnA
  have hz2 := va_Zref (A := fun q : Nat => s.heap.size ≤ q) (hts _ (lwAt_in ls_w.2.2.1)) (hts _ (lwAt_in ls_w.2.2.2.1)) htH hnA
  have hz3 := va_Zof (A := fun q : Nat => s.heap.size ≤ q) (hts _ (lwAt_in ls_w.2.2.2.2.1)) (hts _ (lwAt_in ls_w.2.2.2.2.2.1)) (va_eqi (hfl _ sx_9.1)) hnA
  have hz4 := va_Zqof (A := fun q : Nat => s.heap.size ≤ q) (hts _ (lwAt_in ls_w.2.2.2.2.2.2.1)) (hts _ (lwAt_in ls_w.2.2.2.2.2.2.2)) (hfl _ sx_9.2) hnA
  obtain ⟨fo, hfo⟩ : ∃ fo : Option Nat, va_Z "jdk/internal/util/Preconditions" "SIOOBE_FORMATTER" "Ljava/util/function/BiFunction;" (va_rf fo) (fun q : Nat => s.heap.size ≤ q) s s.heap := by
    rcases hz4 with h | ⟨t, h⟩
    · exact ⟨none, h⟩
    · exact ⟨some t, h⟩
  obtain ⟨ad, had0, had1, had2, had3, had4⟩ : ∃ ad : Nat → Nat, ad 0 = b ∧ ad 1 = tR ∧ ad 2 = tH ∧ (∀ i, i < 12 → ad (3 + i) = adK i) ∧ (∀ i, i < 12 → ad (15 + i) = adV i) := by
    refine ⟨fun a => if a = 0 then b else if a = 1 then tR else if a = 2 then tH else if a < 15 then adK (a - 3) else adV (a - 15), rfl, rfl, rfl, fun i hi => ?_, fun i hi => ?_⟩
    · show (if 3 + i = 0 then b else if 3 + i = 1 then tR else if 3 + i = 2 then tH else if 3 + i < 15 then adK (3 + i - 3) else adV (3 + i - 15)) = _
      rw [if_neg (by omega), if_neg (by omega), if_neg (by omega), if_pos (by omega), show 3 + i - 3 = i by omega]
    · show (if 15 + i = 0 then b else if 15 + i = 1 then tR else if 15 + i = 2 then tH else if 15 + i < 15 then adK (15 + i - 3) else adV (15 + i - 15)) = _
      rw [if_neg (by omega), if_neg (by omega), if_neg (by omega), if_neg (by omega), show 15 + i - 15 = i by omega]
  have hCs : nCs fo ad (hp0 L xs) (fun q : Nat => s.heap.size ≤ q) s s.heap := by
    refine ⟨fun a n ha hs => ?_, fun a n ha hs => ?_, fun a n ha hs => ?_, by rw [had1]; exact hz1, by rw [had2]; exact hz2, hz3, hfo⟩
    · rcases c0_cases hs with ⟨rfl, -, rfl⟩ | ⟨rfl, -, rfl⟩ | ⟨rfl, -, rfl⟩ | ⟨-, -, h9, -⟩ | ⟨-, -, h9, -⟩ | ⟨-, h9, -⟩
      · rw [had0]
        obtain ⟨scr, x1, x2, x3, x4, x5⟩ := hX
        refine ⟨scr, x1, x2, x3, by omega, by rw [x4], fun j hj => ?_, hnA b hbl⟩
        rw [x5 j hj]
        show some (Value.int (xs j)) = some (.int (Int32.ofInt (xs j).toInt))
        rw [Int32.ofInt_toInt]
      · rw [had1]; exact hTR
      · rw [had2]; exact hTH
      · cases h9
      · cases h9
      · cases h9
    · rcases c0_cases hs with ⟨-, h9, -⟩ | ⟨-, h9, -⟩ | ⟨-, h9, -⟩ | ⟨-, -, h9, -⟩ | ⟨h1, h2, -, rfl⟩ | ⟨-, h9, -⟩
      · cases h9
      · cases h9
      · cases h9
      · cases h9
      · obtain ⟨i, rfl⟩ : ∃ i, a = 15 + i := ⟨a - 15, by omega⟩
        have hi : i < 12 := by omega
        rw [had4 i hi]
        have h5 := (hvk.1 i hi).2.2.2
        have e : (fun j => Value.int (Int32.ofInt ((hp0 L xs).2.1 (15 + i) j))) = fun j => .int ((sB.getD i []).getD j 0) := by
          funext j
          rw [sB_get]
          show Value.int (Int32.ofInt (c0i xs (15 + i) j)) = _
          unfold c0i
          rw [if_neg (by omega), if_neg (by omega), if_neg (by omega), if_pos (by omega), show 15 + i - 15 = i by omega]
        rw [e, show 15 + i - 15 = i by omega]
        exact h5
      · cases h9
    · rcases c0_cases hs with ⟨-, h9, -⟩ | ⟨-, h9, -⟩ | ⟨-, h9, -⟩ | ⟨h1, h2, -, -⟩ | ⟨-, -, h9, -⟩ | ⟨-, h9, -⟩
      · cases h9
      · cases h9
      · cases h9
      · obtain ⟨i, rfl⟩ : ∃ i, a = 3 + i := ⟨a - 3, by omega⟩
        have hi : i < 12 := by omega
        have h5 := hvk.1 i hi
        have e1 : (hp0 L xs).2.1 (3 + i) 1 = 0 := by
          show c0i xs (3 + i) 1 = 0
          unfold c0i
          rw [if_neg (by omega), if_neg (by omega), if_neg (by omega), if_neg (by omega)]
        have e2 : (hp0 L xs).2.2.1 (3 + i) 0 = some (15 + i) := by
          show c0r (3 + i) 0 = _
          unfold c0r
          rw [if_pos (by omega), show 3 + i + 12 = 15 + i by omega]
        rw [had3 i hi, e1, e2]
        refine ⟨h5.1, h5.2.1, ?_⟩
        show va_OF _ _ _ (.ref (ad (15 + i))) _ _ _ _
        rw [had4 i hi]
        exact h5.2.2.1
      · cases h9
      · cases h9
  have hWd : nWd ad s := by
    refine ⟨fun w hw => ?_, hao1, hao2, hao3, fun q hq => ?_⟩
    · obtain ⟨a1, i1, x1, b1, rfl⟩ := nst_form hw
      exact va_Nw.of rfl (hts _ (nest_lw _ hw))
    · have h5 := List.all_eq_true.mp sx_ok q hq
      simp only [Bool.and_eq_true, decide_eq_true_eq] at h5
      rw [had3 _ h5.1]
      have h6 := hev q.2.2 h5.1
      unfold sT at h6
      rw [h5.2] at h6
      exact vk_R.of (hts _ (sr_in q hq)) h6
  have hws : nWs E ad (hp0 L xs) = [] := by
    unfold nWs
    show (List.range (28 - 28)).map _ = []
    rfl
  have hnw : nW fo E (dC, dI) ad (hp0 L xs) (fun q : Nat => s.heap.size ≤ q) s s.heap [] := by
    refine ⟨hK, by rw [hws]; exact fun k q h => (by simp at h), by rw [hws]; exact ⟨fun i j p q h => (by simp at h), fun k q h => (by simp at h)⟩, va_S.rf, hA, hCs, hWd, hp0_ok (by omega)⟩
  have hl := lv_entry ([.ref b]) (n := 4) (Nat.le_of_ble_eq_true rfl)
  rw [lg_entry_eq]
  generalize (lg_sl ([.ref b]) ++ List.replicate (4 - (lg_sl ([.ref b])).length) Slot.unset).toArray = la at hl ⊢
  obtain ⟨n, hw⟩ := hlaw L xs hL
  refine snd_all l n 0 nM0 0 (mkL 4 [.inr (.inr (some 0))]) [] (hp0 L xs) 0 0 _ p e room_1 s m #[Value.ref b] below meth c (lw_Z below #[Value.ref b] s) fo E (dC, dI) (fun q : Nat => s.heap.size ≤ q) 28 ad la s.heap [] ad rfl hw ⟨hx, hb, hml, hown, hts0, rfl, fun h9 => absurd h9 (by decide), rfl, rfl, rfl, rfl⟩ ⟨⟨hl.mono (fun q hq => ?_), rfl⟩, ?_, fun _ h9 => (by cases h9), hnw, Nat.le_refl _, fun _ _ => rfl⟩ ?_
  · obtain ⟨v, h1, h2⟩ := mem_cvL.mp hq
    obtain ⟨q1, q2⟩ := q
    match q1, h1 with
    | 0, h1 =>
      cases h1
      dsimp only at h2
      rw [h2, cv_ref (by decide), had0]
      exact List.mem_cons_self
    | 1, h1 => cases h1
    | 2, h1 => cases h1
    | 3, h1 => cases h1
    | k + 4, h1 => cases h1
  · intro v hv
    rcases List.mem_cons.mp hv with h1 | h1
    · cases h1
      intro a ha
      cases ha
      show 0 < 28
      decide
    · have := List.eq_of_mem_replicate (show some v ∈ List.replicate 3 none from h1)
      cases this
  · intro pc la H locs cs sl ad2 v h2 ins hdg hI hcs hsl hQ hv hw9 hn h28
    subst hQ
    have hins : ins = .ireturn := by
      rcases hI with ⟨x, t, h1, h2, h3, h4⟩ | ⟨x, h1, -⟩ | ⟨x, c9, h1, -⟩ | ⟨h1, -⟩
      · exact h2
      · cases h1
      · cases h1
      · cases h1
    subst hins
    refine W.widen (k := 600000) (n := 7302250) hcs hsl ?_
    have hlocs : ∀ q ∈ locs, s.heap.size ≤ q.base := hw9.2.2.2.1.2.2
    have := W.forget (locs := []) (L := locs) hlocs (lw_ret (p := p) (l := l) (e := e) (s := s) (m := m) (below := below) (meth := meth) (c := c) (b := b) (H := H) (ls := la) hx hb hr hlocks hdg)
    exact this
