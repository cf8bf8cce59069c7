/-! what changes the station -/
def pushH (h : Hy) (m : Row) : Hy := (acts1 h.1, push h.1 h.2 m)
theorem AR.act {T T' : Nat} {M M1 M3 : Mem} {A : Ab} {c1 : Reg} {f : Nat → Reg} {row' : Row} (S : AR T M A) (hT : T ≤ T') (hk : ∀ k, k < A.2.1.1 → HR T (f k) (A.2.1.2 k)) (kp : Keep M M1) (r1 : HR T c1 A.1) (hc : HC M1 (acts1 A.2.1.1) (push A.2.1.1 f c1)) (h3 : ∀ i, i ≠ 0 → M3 i = M1 i) (hr : HR T' (M3 0) row') : AR T' M3 (row', pushH A.2.1 A.1, A.2.2.1, A.2.2.2) ∧ M3 23 = M 23 := by
  obtain ⟨S1, S2, S3, S4⟩ := S
  have m16 : ∀ i, 16 ≤ i → i ≠ 20 → M3 i = M i := fun i h1 h2 => by rw [h3 i (by omega)]; exact kp.2.2.1 i h1 h2
  have m20 : ∀ j, j ≠ 2 → j ≠ 3 → M3 20 j = M 20 j := fun j h1 h2 => by rw [h3 20 (by decide)]; exact kp.2.2.2 j h1 h2
  refine ⟨⟨hr, ⟨push A.2.1.1 f c1, hc.same (fun i h1 h2 => h3 i (by omega)) (by rw [h3 20 (by decide)]) (by rw [h3 20 (by decide)]), fun k hk' => (push_ok (Q := HR T) hk r1 k hk').mono hT⟩, S3.same hT (m16 16 (by decide) (by decide)) (m16 17 (by decide) (by decide)) (m20 5 (by decide) (by decide)), S4.same ?_ (m20 1 (by decide) (by decide))⟩, m16 23 (by decide) (by decide)⟩
  rw [m20 0 (by decide) (by decide)]
theorem q_outside {n T : Nat} {A : Ab} {d : Int32} (I : Inv n T A.1) (hd : -20 ≤ d.toInt ∧ d.toInt ≤ 40) : Sp (wL_outside d) T A T (Int32.toInt64 (A.1 2)) (upd A.1 2 d, pushH A.2.1 A.1, A.2.2.1, A.2.2.2) := by
  intro M P S h
  obtain ⟨R, -⟩ := I.at S.1
  obtain ⟨f, hf, hfg⟩ := S.2.1
  unfold wL_outside wX5_outside
  refine c5_outside (fun _ => ⟨fun _ => ?_, fun q => absurd q z10⟩) (fun q => absurd hd q)
  refine s0_remember hf S.1 (fun M1 c1 kp rc hc => ?_)
  have g := S.act (T' := T) (M3 := va_up M1 0 (cu (M1 0) 0 1 d)) (row' := upd A.1 2 d) (Nat.le_refl _) hfg kp rc hc (fun i hi => va_un _ _ hi) ⟨n, by rw [va_us, kp.1]; exact R.out I.1.1, I.out hd.1 hd.2⟩
  have e : M1 0 0 1 = A.1 2 := by rw [kp.1]; exact R.1.2.1
  rw [e]
  exact h _ g.1 g.2
theorem b_outside {T : Nat} {A : Ab} {d : Int32} (hd : ¬ (-20 ≤ d.toInt ∧ d.toInt ≤ 40)) : Ro (wL_outside d) T A xIAE := by
  intro M P S h
  unfold wL_outside wX5_outside
  exact c5_outside (fun q => absurd q hd) (fun _ => ⟨fun q => absurd rfl q, fun _ => ⟨rfl, h M S rfl⟩⟩)
theorem q_set {n T k : Nat} {A : Ab} {x : Int32} (I : Inv n T A.1) (hk : k < 9) (hx : SetOk k x) : Sp (wL_set (Int32.ofNat k) x) T A T (Int32.toInt64 (A.1 (9 + k))) (upd A.1 (9 + k) x, pushH A.2.1 A.1, A.2.2.1, A.2.2.2) := by
  intro M P S h
  obtain ⟨R, -⟩ := I.at S.1
  obtain ⟨f, hf, hfg⟩ := S.2.1
  unfold wL_set wX5_set
  refine c5_setting (fun k' hk' ed _ => ⟨fun _ => ?_, fun q => absurd q z10⟩) (fun q => absurd ⟨k, hk, rfl, hx⟩ q)
  refine s0_remember hf S.1 (fun M1 c1 kp rc hc => ?_)
  have R1 : RlM n (M1 0) A.1 := by rw [kp.1]; exact R
  refine s3_settingOf R1 hk ?_
  rw [va_ue]
  refine c3_change hk ?_
  have g := S.act (T' := T) (M3 := va_up M1 0 (cu (M1 0) 1 k x)) (row' := upd A.1 (9 + k) x) (Nat.le_refl _) hfg kp rc hc (fun i hi => va_un _ _ hi) ⟨n, by rw [va_us]; exact R1.set I.1.1 hk, I.set hk hx⟩
  exact h _ g.1 g.2
theorem b_set {T : Nat} {A : Ab} {d x : Int32} (hd : ¬ ∃ k, k < 9 ∧ d = Int32.ofNat k ∧ SetOk k x) : Ro (wL_set d x) T A xIAE := by
  intro M P S h
  unfold wL_set wX5_set
  exact c5_setting (fun k hk e g => absurd ⟨k, hk, e, g⟩ hd) (fun _ => ⟨fun q => absurd rfl q, fun _ => ⟨rfl, h M S rfl⟩⟩)
theorem q_setRoom {n T i k : Nat} {A : Ab} {x : Int32} (I : Inv n T A.1) (hi : i < n) (hk : k < 3) (hx : RoomOk k x) : Sp (wL_setRoom (Int32.ofNat i) (Int32.ofNat k) x) T A T (Int32.toInt64 (A.1 (27 + 8 * i + k))) (upd A.1 (27 + 8 * i + k) x, pushH A.2.1 A.1, A.2.2.1, A.2.2.2) := by
  intro M P S h
  obtain ⟨R, -⟩ := I.at S.1
  have hn := I.1.1
  obtain ⟨f, hf, hfg⟩ := S.2.1
  unfold wL_setRoom wX5_setRoom
  refine c3_hasRoom R.rooms hn (fun i' hi' er => ⟨fun _ => ?_, fun q => absurd q z10⟩) (fun hr => absurd (ti_ok hi (by omega)) hr)
  rw [va_ue]
  refine c5_roomNumber (fun k' hk' ed _ => ⟨fun _ => ?_, fun q => absurd q z10⟩) (fun q => absurd ⟨k, hk, rfl, hx⟩ q)
  refine s0_remember hf S.1 (fun M1 c1 kp rc hc => ⟨nn_in (by omega) (by omega), ?_⟩)
  have R1 : RlM n (M1 0) A.1 := by rw [kp.1]; exact R
  rw [tn_nat (by omega)]
  refine c2_change hk ?_
  have g := S.act (T' := T) (M3 := va_up M1 0 (cu (M1 0) (i + 9) k x)) (row' := upd A.1 (27 + 8 * i + k) x) (Nat.le_refl _) hfg kp rc hc (fun i hi => va_un _ _ hi) ⟨n, by rw [va_us]; exact R1.cell hn hi (by omega), I.cell hi hk⟩
  rw [R1.2.2.2.1 i k hi (by omega)]
  exact h _ g.1 g.2
theorem b_setRoom1 {n T : Nat} {A : Ab} {r d x : Int32} (I : Inv n T A.1) (hr : ¬ (0 ≤ r.toInt ∧ r.toInt < n)) : Ro (wL_setRoom r d x) T A xIOB := by
  intro M P S h
  obtain ⟨R, -⟩ := I.at S.1
  have hn := I.1.1
  unfold wL_setRoom wX5_setRoom
  refine c3_hasRoom R.rooms hn (fun i hi e => absurd (by rw [e]; exact ti_ok hi (by omega)) hr) (fun hr => ⟨fun q => absurd rfl q, fun _ => Or.inl ⟨rfl, ?_⟩⟩)
  rw [va_ue]
  exact h M S rfl
theorem b_setRoom2 {n T i : Nat} {A : Ab} {d x : Int32} (I : Inv n T A.1) (hi : i < n) (hd : ¬ ∃ k, k < 3 ∧ d = Int32.ofNat k ∧ RoomOk k x) : Ro (wL_setRoom (Int32.ofNat i) d x) T A xIAE := by
  intro M P S h
  obtain ⟨R, -⟩ := I.at S.1
  have hn := I.1.1
  unfold wL_setRoom wX5_setRoom
  refine c3_hasRoom R.rooms hn (fun i' hi' er => ⟨fun _ => ?_, fun q => absurd q z10⟩) (fun hr => absurd (ti_ok hi (by omega)) hr)
  rw [va_ue]
  exact c5_roomNumber (fun k hk e g => absurd ⟨k, hk, e, g⟩ hd) (fun hd => ⟨fun q => absurd rfl q, fun _ => Or.inr ⟨rfl, h M S rfl⟩⟩)
theorem q_window {n T i : Nat} {A : Ab} {bv : Int32} (I : Inv n T A.1) (hi : i < n) (hb : bv = 0 ∨ bv = 1) : Sp (wL_window (Int32.ofNat i) bv) T A T (Int32.toInt64 (sumq (upd A.1 (30 + 8 * i) bv) 4 n)) (upd A.1 (30 + 8 * i) bv, pushH A.2.1 A.1, A.2.2.1, A.2.2.2) := by
  intro M P S h
  obtain ⟨R, -⟩ := I.at S.1
  have hn := I.1.1
  obtain ⟨f, hf, hfg⟩ := S.2.1
  unfold wL_window wX5_window
  refine c3_hasRoom R.rooms hn (fun i' hi' er => ⟨fun _ => ?_, fun q => absurd q z10⟩) (fun hr => absurd (ti_ok hi (by omega)) hr)
  rw [va_ue]
  refine s0_remember hf S.1 (fun M1 c1 kp rc hc => ⟨nn_in (by omega) (by omega), hb, ?_⟩)
  rw [tn_nat (by omega)]
  have R1 : RlM n (cu (M1 0) (i + 9) 3 bv) (upd A.1 (30 + 8 * i) bv) := by rw [kp.1]; exact R.win hn hi
  have I1 := I.win hi hb
  refine c3_openWindows (c := va_up M1 0 (cu (M1 0) (i + 9) 3 bv) 0) R1 hn I1.2.2.1.1 ?_
  rw [va_ue]
  have g := S.act (T' := T) (M3 := va_up M1 0 (cu (M1 0) (i + 9) 3 bv)) (row' := upd A.1 (30 + 8 * i) bv) (Nat.le_refl _) hfg kp rc hc (fun i hi => va_un _ _ hi) ⟨n, by rw [va_us]; exact R1, I1⟩
  exact h _ g.1 g.2
theorem b_window {n T : Nat} {A : Ab} {r bv : Int32} (I : Inv n T A.1) (hr : ¬ (0 ≤ r.toInt ∧ r.toInt < n)) : Ro (wL_window r bv) T A xIOB := by
  intro M P S h
  obtain ⟨R, -⟩ := I.at S.1
  have hn := I.1.1
  unfold wL_window wX5_window
  refine c3_hasRoom R.rooms hn (fun i hi e => absurd (by rw [e]; exact ti_ok hi (by omega)) hr) (fun hr => ⟨fun q => absurd rfl q, fun _ => ⟨rfl, ?_⟩⟩)
  rw [va_ue]
  exact h M S rfl
theorem q_addRoom {n T : Nat} {A : Ab} {t wa ra le : Int32} (I : Inv n T A.1) (hok : AddOk t wa ra le) (h6 : n < 6) : Sp (wL_addRoom t wa ra le) T A T (Int32.toInt64 (Int32.ofNat n)) (addf A.1 n t wa ra le, pushH A.2.1 A.1, A.2.2.1, A.2.2.2) := by
  intro M P S h
  obtain ⟨R, -⟩ := I.at S.1
  obtain ⟨f, hf, hfg⟩ := S.2.1
  refine c5_addRoom (fun _ => ?_) (fun hno => absurd hok hno)
  refine ⟨fun _ => ⟨fun _ => ?_, fun q => absurd rfl q⟩, fun q => absurd (by rw [R.rooms]; exact (nn_lt (b := 6) (by omega) (by omega)).mpr h6) q⟩
  rw [va_ue]
  refine s0_remember hf S.1 (fun M1 c1 kp rc hc => ?_)
  have R1 : RlM n (M1 0) A.1 := by rw [kp.1]; exact R
  refine s3_buildRoom I.1 I.2.2.1 R1 h6 hok.1 (fun c' R' => ?_)
  have g := S.act (T' := T) (M3 := va_up M1 0 c') (row' := addf A.1 n t wa ra le) (Nat.le_refl _) hfg kp rc hc (fun i hi => va_un _ _ hi) ⟨n + 1, by rw [va_us]; exact R', I.addr h6 hok.1⟩
  have e : va_up M1 0 c' 0 0 8 - 1 = Int32.ofNat n := by
    rw [va_us, R'.rooms, ← nn_s]
    exact Int32.add_sub_cancel _ _
  rw [e]
  exact h _ g.1 g.2
theorem b_addRoom1 {T : Nat} {A : Ab} {t wa ra le : Int32} (hno : ¬ AddOk t wa ra le) : Ro (wL_addRoom t wa ra le) T A xIAE := by
  intro M P S h
  exact c5_addRoom (fun hok => absurd hok hno) (fun _ => Or.inl ⟨rfl, h M S rfl⟩)
theorem b_addRoom2 {T : Nat} {A : Ab} {t wa ra le : Int32} (I : Inv 6 T A.1) (hok : AddOk t wa ra le) : Ro (wL_addRoom t wa ra le) T A xISE := by
  intro M P S h
  obtain ⟨R, -⟩ := I.at S.1
  refine c5_addRoom (fun _ => ?_) (fun hno => absurd hok hno)
  refine ⟨fun q => absurd q (by rw [R.rooms]; decide), fun _ => ⟨fun q => absurd q z10, fun _ => Or.inr ⟨rfl, ?_⟩⟩⟩
  rw [va_ue]
  exact h M S rfl
theorem q_pass {n T k : Nat} {A : Ab} (I : Inv n T A.1) (hT : T ≤ 100000) (h1 : 1 ≤ k) (hk : k ≤ 60) : Sp (wL_pass (Int32.ofNat k)) T A (T + 60) (Int32.toInt64 (Int32.ofNat (gns n A.1 k))) (mns n A.1 k, pushH A.2.1 A.1, A.2.2.1, A.2.2.2) := by
  intro M P S h
  obtain ⟨R, -⟩ := I.at S.1
  have hn := I.1.1
  obtain ⟨f, hf, hfg⟩ := S.2.1
  unfold wL_pass wX5_pass
  refine c5_pass (fun _ => ⟨fun _ => ?_, fun q => absurd q z10⟩) (fun hd => absurd (by rw [ti_nat (by omega)]; omega) hd)
  refine s0_remember hf S.1 (fun M1 c1 kp rc hc => ?_)
  have R1 : RlM n (M1 0) A.1 := by rw [kp.1]; exact R
  refine c3_allComfort R1 hn ?_
  rw [va_ue]
  refine q3_advance I (by omega) R1 (fun c' R' => c3_allComfort R' hn ?_)
  rw [va_ue, sub_sum hn]
  have g := S.act (T' := T + 60) (M3 := va_up M1 0 c') (row' := mns n A.1 k) (by omega) hfg kp rc hc (fun i hi => va_un _ _ hi) ⟨n, by rw [va_us]; exact R', (I.mns k (by omega)).mono (by omega)⟩
  exact h _ g.1 g.2
theorem b_pass {T : Nat} {A : Ab} {d : Int32} (hd : ¬ (1 ≤ d.toInt ∧ d.toInt ≤ 60)) : Ro (wL_pass d) T A xIAE := by
  intro M P S h
  unfold wL_pass wX5_pass
  exact c5_pass (fun q => absurd q hd) (fun _ => ⟨fun q => absurd rfl q, fun _ => ⟨rfl, h M S rfl⟩⟩)
theorem q_undo {T b : Nat} {A : Ab} (hb : A.2.1.1 = b + 1) : Sp wL_undo T A T (Int32.toInt64 (Int32.ofNat b)) (A.2.1.2 b, (b, A.2.1.2), A.2.2.1, A.2.2.2) := by
  intro M P S h
  obtain ⟨S1, ⟨f, hf, hfg⟩, S3, S4⟩ := S
  rw [hb] at hf hfg
  have e21 := hf.1
  have ha := hf.2.1
  unfold wL_undo wX5_undo wX0_isEmpty
  rw [e21]
  refine ⟨fun _ => ⟨fun _ => s0_takeBack hf (hfg b (by omega)) (fun c1 r1 => ?_), fun q => absurd rfl q⟩, fun q => absurd ((nn_lt (a := 0) (by omega) (by omega)).mpr (by omega)) q⟩
  have ev : va_up (va_up M 0 c1) 20 (cu (M 20) 2 1 (Int32.ofNat b)) 20 2 1 = Int32.ofNat b := by rw [va_us, cu_sv, upd_s]
  rw [ev]
  have hc : HC (va_up (va_up M 0 c1) 20 (cu (M 20) 2 1 (Int32.ofNat b))) b f := by
    obtain ⟨p, p1, p2, p3⟩ := hf.2.2
    refine ⟨ev, by omega, p, fun k hk => p1 k hk, p2, fun k hk => ?_⟩
    have hp := (p1 k (by omega)).1
    rw [va_un _ _ (by omega), va_un _ _ (by omega)]
    exact p3 k (by omega)
  have hh : ∀ k, k < b → HR T (f k) (A.2.1.2 k) := fun k hk => hfg k (by omega)
  exact h _ ⟨r1, ⟨f, hc, hh⟩, S3.same (Nat.le_refl _) rfl rfl rfl, S4.same rfl rfl⟩ rfl
theorem b_undo {T : Nat} {A : Ab} (hb : A.2.1.1 = 0) : Ro wL_undo T A xISE := by
  intro M P S h
  obtain ⟨f, hf, hfg⟩ := S.2.1
  rw [hb] at hf
  unfold wL_undo wX5_undo wX0_isEmpty
  rw [hf.1]
  exact ⟨fun q => absurd q (by decide), fun _ => ⟨fun q => absurd q z10, fun _ => ⟨rfl, h M S rfl⟩⟩⟩
theorem q_save {n T s : Nat} {A : Ab} (I : Inv n T A.1) (hs : s < 2) : Sp (wL_save (Int32.ofNat s)) T A T (Int32.toInt64 (A.1 1)) (A.1, A.2.1, (fun i => if i = s then some A.1 else A.2.2.1 i), A.2.2.2) := by
  intro M P S h
  obtain ⟨R, I'⟩ := I.at S.1
  obtain ⟨S1, S2, S3, S4⟩ := S
  unfold wL_save wX5_save
  refine ⟨fun q => absurd q (ng (by omega)), fun _ => ⟨fun q => absurd q (nge (b := 2) hs (by omega)), fun _ => ⟨fun _ => ⟨nn_in (by omega) hs, ?_⟩, fun q => absurd ((nn_lt (b := 2) (by omega) (by omega)).mpr hs) q⟩⟩⟩
  rw [tn_nat (by omega)]
  refine s3_copyFrom I.1 I.2.1 I.2.2.1 R (fun c' R' => ⟨nn_in (by omega) hs, ?_⟩)
  rw [bool1]
  generalize hM : va_up (va_up M (s + 16) c') 20 _ = M2
  have m0 : M2 0 = M 0 := by rw [← hM, va_un _ _ (by omega), va_un _ _ (by omega)]
  have mo : ∀ i, i ≠ 20 → i ≠ s + 16 → M2 i = M i := fun i h1 h2 => by rw [← hM, va_un _ _ h1, va_un _ _ h2]
  have ms : M2 (s + 16) = c' := by rw [← hM, va_un _ _ (by omega), va_us]
  have m20 : M2 20 = cu (M 20) 5 s 1 := by rw [← hM, va_us, va_un _ _ (by omega)]
  have e1 : M2 0 0 0 = A.1 1 := by rw [m0]; exact R.1.1
  rw [e1]
  refine h _ ⟨?_, S2.same (Nat.le_refl _) (fun i h1 h2 => mo i (by omega) (by omega)) ?_ ?_, fun i hi => ?_, S4.same ?_ ?_⟩ (mo 23 (by decide) (by omega))
  · rw [m0]; exact S1
  · rw [m20]; rfl
  · rw [m20]; rfl
  · show slotR T M2 i (if i = s then some A.1 else A.2.2.1 i)
    by_cases e : i = s
    · subst e
      rw [if_pos rfl]
      refine ⟨by rw [m20, cu_sv, upd_s], ?_⟩
      rw [ms]
      exact ⟨n, R', I⟩
    · rw [if_neg e]
      have h := S3 i hi
      have ev : M2 20 5 i = M 20 5 i := by rw [m20, cu_sv, upd_n _ _ e]
      cases hz : A.2.2.1 i with
      | none => rw [hz] at h; exact ev.trans h
      | some r => rw [hz] at h; exact ⟨ev.trans h.1, by rw [mo (i + 16) (by omega) (by omega)]; exact h.2⟩
  · rw [m20]; rfl
  · rw [m20]; rfl
theorem b_save {T : Nat} {A : Ab} {d : Int32} (hd : ¬ (0 ≤ d.toInt ∧ d.toInt < (2 : Nat))) : Ro (wL_save d) T A xIOB := by
  intro M P S h
  unfold wL_save wX5_save
  refine ⟨fun _ => ⟨rfl, h M S rfl⟩, fun q => ⟨fun _ => ⟨rfl, h M S rfl⟩, fun q2 => ?_⟩⟩
  rw [Int32.lt_iff_toInt_lt, i0] at q
  rw [Int32.le_iff_toInt_le, i2] at q2
  exact absurd ⟨by omega, by omega⟩ hd
/-- nothing is remembered -/
def h00 : Hy := (0, fun _ _ => 0)
theorem AHist.empty {T : Nat} {M M2 : Mem} {h : Hy} (H : AHist T M h) (h1 : M2 20 2 1 = 0) (h3 : M2 20 3 = M 20 3) : AHist T M2 h00 := by
  obtain ⟨f, hf, -⟩ := H
  refine ⟨f, ⟨h1, by decide, ?_⟩, fun k hk => absurd hk (Nat.not_lt_zero k)⟩
  obtain ⟨p, p1, p2, p3⟩ := hf.2.2
  refine ⟨p, fun k hk => ⟨(p1 k hk).1, ?_⟩, p2, fun k hk => absurd hk (Nat.not_lt_zero k)⟩
  rw [h3]
  exact (p1 k hk).2
theorem q_restore {T s : Nat} {A : Ab} {r : Row} (hs : s < 2) (hr : A.2.2.1 s = some r) : Sp (wL_restore (Int32.ofNat s)) T A T (Int32.toInt64 (r 1)) (r, h00, A.2.2.1, A.2.2.2) := by
  intro M P S h
  obtain ⟨S1, S2, S3, S4⟩ := S
  have z := S3 s hs
  rw [hr] at z
  obtain ⟨z1, z3⟩ := z
  have vs : vp_in (Int32.ofNat s) 2 := nn_in (by omega) hs
  unfold wL_restore wX5_restore
  refine ⟨fun q => absurd q (ng (by omega)), fun _ => ⟨fun q => absurd q (nge (b := 2) hs (by omega)), fun _ => ⟨fun _ => ⟨vs, ?_⟩, fun q => absurd ((nn_lt (b := 2) (by omega) (by omega)).mpr hs) q⟩⟩⟩
  rw [tn_nat (by omega)]
  refine ⟨fun _ => ⟨vs, h3_copyFrom z3 (fun c' H' => ?_)⟩, fun q => absurd (z1.symm.trans q) z10⟩
  unfold wX0_forgetAll
  generalize hM : va_up (va_up M 0 c') 20 _ = M2
  have m0 : M2 0 = c' := by rw [← hM]; rfl
  have mo : ∀ i, i ≠ 20 → i ≠ 0 → M2 i = M i := fun i h1 h2 => by rw [← hM, va_un _ _ h1, va_un _ _ h2]
  have m20 : M2 20 = cu (M 20) 2 1 0 := by rw [← hM]; rfl
  have e1 : M2 0 0 0 = r 1 := by
    obtain ⟨n, R3, I3⟩ := H'
    rw [m0]; exact R3.1.1
  dsimp only
  rw [e1]
  refine h _ ⟨?_, S2.empty ?_ ?_, S3.same (Nat.le_refl _) (mo 16 (by decide) (by decide)) (mo 17 (by decide) (by decide)) ?_, S4.same ?_ ?_⟩ (mo 23 (by decide) (by decide))
  · rw [m0]; exact H'
  · rw [m20, cu_sv, upd_s]
  · rw [m20]; rfl
  · rw [m20]; rfl
  · rw [m20]; rfl
  · rw [m20]; rfl
theorem b_restore1 {T : Nat} {A : Ab} {d : Int32} (hd : ¬ (0 ≤ d.toInt ∧ d.toInt < (2 : Nat))) : Ro (wL_restore d) T A xIOB := by
  intro M P S h
  unfold wL_restore wX5_restore
  refine ⟨fun _ => Or.inl ⟨rfl, h M S rfl⟩, fun q => ⟨fun _ => Or.inl ⟨rfl, h M S rfl⟩, fun q2 => ?_⟩⟩
  rw [Int32.lt_iff_toInt_lt, i0] at q
  rw [Int32.le_iff_toInt_le, i2] at q2
  exact absurd ⟨by omega, by omega⟩ hd
theorem b_restore2 {T s : Nat} {A : Ab} (hs : s < 2) (hr : A.2.2.1 s = none) : Ro (wL_restore (Int32.ofNat s)) T A xISE := by
  intro M P S h
  have z := S.2.2.1 s hs
  rw [hr] at z
  have z1 : M 20 5 s = 0 := z
  have vs : vp_in (Int32.ofNat s) 2 := nn_in (by omega) hs
  unfold wL_restore wX5_restore
  refine ⟨fun q => absurd q (ng (by omega)), fun _ => ⟨fun q => absurd q (nge (b := 2) hs (by omega)), fun _ => ⟨fun _ => ⟨vs, ?_⟩, fun q => absurd ((nn_lt (b := 2) (by omega) (by omega)).mpr hs) q⟩⟩⟩
  rw [tn_nat (by omega)]
  exact ⟨fun q => absurd z1 q, fun _ => Or.inr ⟨rfl, h M S rfl⟩⟩
