/-! ===== lengths of class and reference ===== -/
theorem zsum_app (f : Nat → Nat) (a b : Nat) : zsum f (a + b) = zsum f a + zsum (fun j => f (a + j)) b := by
  induction b with
  | zero => rfl
  | succ b ih => rw [← Nat.add_assoc, zsum_su, ih, zsum_su]; omega
theorem zsum_mul (f : Nat → Nat) (a b : Nat) : zsum f (a * b) = zsum (fun i => zsum (fun j => f (i * b + j)) b) a := by
  induction a with
  | zero => rw [Nat.zero_mul]; rfl
  | succ a ih => rw [Nat.succ_mul, zsum_app, ih, zsum_su]
theorem zsum_addf (f g : Nat → Nat) (n : Nat) : zsum (fun i => f i + g i) n = zsum f n + zsum g n := by
  induction n with
  | zero => rfl
  | succ n ih => rw [zsum_su, zsum_su, zsum_su, ih]; omega
theorem zsum_swap (f : Nat → Nat → Nat) (a b : Nat) : zsum (fun i => zsum (fun j => f i j) b) a = zsum (fun j => zsum (fun i => f i j) a) b := by
  induction a with
  | zero => exact (zsum_z fun _ _ => rfl).symm
  | succ a ih =>
    rw [zsum_su, ih]
    rw [show zsum (fun j => zsum (fun i => f i j) (a + 1)) b = zsum (fun j => zsum (fun i => f i j) a + f a j) b from rfl, zsum_addf]
theorem zsum_top {f : Nat → Nat} {m : Nat} (h : ∀ i, m ≤ i → f i = 0) {n : Nat} (hn : m ≤ n) : zsum f n = zsum f m := by
  rw [show n = m + (n - m) by omega, zsum_app, zsum_z (f := fun j => f (m + j)) (fun i _ => h _ (by omega))]
  omega
theorem zsum_one (P : Prop) [Decidable P] (v n : Nat) : zsum (fun j => if j = 0 ∧ P then v else 0) (n + 1) = if P then v else 0 := by
  rw [show n + 1 = 1 + n by omega, zsum_app, zsum_z (f := fun j => if 1 + j = 0 ∧ P then v else 0) (fun i _ => if_neg (fun z => by omega))]
  show 0 + (if 0 = 0 ∧ P then v else 0) + 0 = _
  by_cases e : P
  · rw [if_pos ⟨rfl, e⟩, if_pos e]; omega
  · rw [if_neg (fun z => e z.2), if_neg e]
theorem zsum_ite (s : Nat → Bool) (v n : Nat) : zsum (fun i => if s i = true then v else 0) n = v * zcnt s n := by
  induction n with
  | zero => rfl
  | succ n ih =>
    rw [zsum_su, zcnt_su, ih]
    cases s n
    · simp
    · simp only [if_true]; rw [Nat.mul_add, Nat.mul_one]
theorem zsum_mulc (f : Nat → Nat) (v n : Nat) : zsum (fun i => v * f i) n = v * zsum f n := by
  induction n with
  | zero => rfl
  | succ n ih => rw [zsum_su, zsum_su, ih, Nat.mul_add]
theorem tlX_sum {n : Nat} {A : zTl} (hn : n ≤ 16) (hv : ∀ a b, tv A a b ≠ 0 → a < b ∧ b < n) : zsum (tlX n 0 A) 256 = (2 + 2 * zBits n) * zp2 (fun p q => decide (tv A p q = 1)) n := by
  rw [show (256 : Nat) = 16 * 16 from rfl, zsum_mul]
  have h0 : ∀ a, zsum (fun j => tlX n 0 A (a * 16 + j)) 16 = (2 + 2 * zBits n) * zcnt (fun b => decide (a < b) && decide (tv A a b = 1)) n := fun a => by
    rw [show zsum (fun j => tlX n 0 A (a * 16 + j)) 16 = zsum (fun b => if (decide (a < b) && decide (tv A a b = 1)) = true then 2 + 2 * zBits n else 0) 16 from zsum_ext fun j hj => by
      unfold tlX
      rw [show (a * 16 + j) / 16 = a by omega, show (a * 16 + j) % 16 = j by omega]
      by_cases e : tv A a j = 1
      · have := (hv a j (by omega)).1
        rw [if_pos e, decide_eq_true e, decide_eq_true this]; rfl
      · rw [if_neg e, decide_eq_false e, Bool.and_false]; rfl]
    rw [zsum_ite, zcnt_top (c := n) (fun d hd => by
      by_cases e : tv A a d = 1
      · have := (hv a d (by omega)).2; omega
      · rw [decide_eq_false e, Bool.and_false]) hn]
  rw [zsum_ext (fun a _ => h0 a), zsum_mulc]
  unfold zp2
  rw [zsum_top (m := n) (fun a ha => zcnt_z (fun b hb => by rw [decide_eq_false (by omega)]; rfl)) hn]
theorem zWsn_c (n : Nat) (A : zTl) {i j : Nat} (hi : i < 16) (hj : j < 16) : zWsn A (i * 16 + j) = (decide (j = 0) && tC A i) ∧ zbo n (tm A) (i * 16 + j) = 3 + zBits (tm A) := by
  unfold zWsn zbo
  rw [if_pos (show i * 16 + j < 256 by omega), if_neg (show ¬ (i * 16 + j) / 256 = 1 by omega), if_neg (show ¬ (i * 16 + j) / 256 = 2 by omega), show (i * 16 + j) / 16 = i by omega, show (i * 16 + j) % 16 = j by omega]
  exact ⟨rfl, rfl⟩
theorem zWsn_d (n : Nat) (A : zTl) {i j : Nat} (hi : i < 16) (hj : j < 16) : zWsn A (16 * 16 + (i * 16 + j)) = tD A i j ∧ zbo n (tm A) (16 * 16 + (i * 16 + j)) = 3 + 2 * zBits (tm A) := by
  unfold zWsn zbo
  rw [if_neg (show ¬ 16 * 16 + (i * 16 + j) < 256 by omega), if_pos (show 16 * 16 + (i * 16 + j) < 512 by omega), if_pos (show (16 * 16 + (i * 16 + j)) / 256 = 1 by omega), show (16 * 16 + (i * 16 + j)) / 16 % 16 = i by omega, show (16 * 16 + (i * 16 + j)) % 16 = j by omega]
  exact ⟨rfl, rfl⟩
theorem zWsn_g (n : Nat) (A : zTl) {i j : Nat} (hi : i < 16) (hj : j < 16) : zWsn A (16 * 16 + 16 * 16 + (i * 16 + j)) = tG A i j ∧ zbo n (tm A) (16 * 16 + 16 * 16 + (i * 16 + j)) = 3 + zBits n + zBits (tm A) := by
  unfold zWsn zbo
  rw [if_neg (show ¬ 16 * 16 + 16 * 16 + (i * 16 + j) < 256 by omega), if_neg (show ¬ 16 * 16 + 16 * 16 + (i * 16 + j) < 512 by omega), if_pos (show 16 * 16 + 16 * 16 + (i * 16 + j) < 768 by omega), if_neg (show ¬ (16 * 16 + 16 * 16 + (i * 16 + j)) / 256 = 1 by omega), if_pos (show (16 * 16 + 16 * 16 + (i * 16 + j)) / 256 = 2 by omega), show (16 * 16 + 16 * 16 + (i * 16 + j)) / 16 % 16 = i by omega, show (16 * 16 + 16 * 16 + (i * 16 + j)) % 16 = j by omega]
  exact ⟨rfl, rfl⟩
theorem zWsn_h (n : Nat) (A : zTl) {i j : Nat} (hi : i < 16) (hj : j < 16) : zWsn A (16 * 16 + 16 * 16 + 16 * 16 + (i * 16 + j)) = (decide (j = 0) && tH A i) ∧ zbo n (tm A) (16 * 16 + 16 * 16 + 16 * 16 + (i * 16 + j)) = 3 + zBits (tm A) := by
  unfold zWsn zbo
  rw [if_neg (show ¬ 16 * 16 + 16 * 16 + 16 * 16 + (i * 16 + j) < 256 by omega), if_neg (show ¬ 16 * 16 + 16 * 16 + 16 * 16 + (i * 16 + j) < 512 by omega), if_neg (show ¬ 16 * 16 + 16 * 16 + 16 * 16 + (i * 16 + j) < 768 by omega), if_neg (show ¬ (16 * 16 + 16 * 16 + 16 * 16 + (i * 16 + j)) / 256 = 1 by omega), if_neg (show ¬ (16 * 16 + 16 * 16 + 16 * 16 + (i * 16 + j)) / 256 = 2 by omega), show (16 * 16 + 16 * 16 + 16 * 16 + (i * 16 + j)) / 16 % 16 = i by omega, show (16 * 16 + 16 * 16 + 16 * 16 + (i * 16 + j)) % 16 = j by omega, decide_eq_true (show 16 * 16 + 16 * 16 + 16 * 16 + (i * 16 + j) < 1024 by omega), Bool.true_and]
  exact ⟨rfl, rfl⟩
theorem zbo_sum {n : Nat} {A : zTl} (hn : n ≤ 16) (hw : zTw n A) : zsum (fun c => if zWsn A c = true then zbo n (tm A) c else 0) 1024 = zsum (tlw n A) (tm A) := by
  obtain ⟨⟨hm, -⟩, -, ⟨hC, hD, hG, hH⟩, -⟩ := hw
  rw [show (1024 : Nat) = 16 * 16 + 16 * 16 + 16 * 16 + 16 * 16 from rfl, zsum_app, zsum_app, zsum_app, zsum_mul, zsum_mul, zsum_mul, zsum_mul]
  have e1 : zsum (fun i => zsum (fun j => if zWsn A (i * 16 + j) = true then zbo n (tm A) (i * 16 + j) else 0) 16) 16 = zsum (fun i => if tC A i = true then 3 + zBits (tm A) else 0) (tm A) := by
    rw [← zsum_top (m := tm A) (f := fun i => if tC A i = true then 3 + zBits (tm A) else 0) (fun i hi => if_neg (fun z => by have := (hC i z).1; omega)) hm]
    refine zsum_ext fun i hi => ?_
    rw [← zsum_one (tC A i = true) (3 + zBits (tm A)) 15]
    refine zsum_ext fun j hj => ?_
    rw [(zWsn_c n A hi hj).1, (zWsn_c n A hi hj).2]
    simp only [Bool.and_eq_true, decide_eq_true_eq]
  have e2 : zsum (fun i => zsum (fun j => if zWsn A (16 * 16 + (i * 16 + j)) = true then zbo n (tm A) (16 * 16 + (i * 16 + j)) else 0) 16) 16 = zsum (fun i => zsum (fun j => if i < j ∧ tD A i j = true then 3 + 2 * zBits (tm A) else 0) (tm A)) (tm A) := by
    rw [← zsum_top (m := tm A) (f := fun i => zsum (fun j => if i < j ∧ tD A i j = true then 3 + 2 * zBits (tm A) else 0) (tm A)) (fun i hi => zsum_z fun j hj => if_neg (fun z => by omega)) hm]
    refine zsum_ext fun i hi => ?_
    rw [← zsum_top (m := tm A) (f := fun j => if i < j ∧ tD A i j = true then 3 + 2 * zBits (tm A) else 0) (fun j hj => if_neg (fun z => by have := (hD i j z.2).2; omega)) hm]
    refine zsum_ext fun j hj => ?_
    rw [(zWsn_d n A hi hj).1, (zWsn_d n A hi hj).2]
    by_cases e : tD A i j = true
    · rw [if_pos e, if_pos ⟨(hD i j e).1, e⟩]
    · rw [if_neg e, if_neg (fun z => e z.2)]
  have e3 : zsum (fun i => zsum (fun j => if zWsn A (16 * 16 + 16 * 16 + (i * 16 + j)) = true then zbo n (tm A) (16 * 16 + 16 * 16 + (i * 16 + j)) else 0) 16) 16 = zsum (fun i => zsum (fun p => if tG A p i = true then 3 + zBits n + zBits (tm A) else 0) n) (tm A) := by
    rw [zsum_swap, ← zsum_top (m := tm A) (f := fun i => zsum (fun p => if tG A p i = true then 3 + zBits n + zBits (tm A) else 0) n) (fun i hi => zsum_z fun p _ => if_neg (fun z => by have := (hG p i z).2.1; omega)) hm]
    refine zsum_ext fun i hi => ?_
    rw [← zsum_top (m := n) (f := fun p => if tG A p i = true then 3 + zBits n + zBits (tm A) else 0) (fun p hp => if_neg (fun z => by have := (hG p i z).1; omega)) hn]
    refine zsum_ext fun p hp => ?_
    rw [(zWsn_g n A hp hi).1, (zWsn_g n A hp hi).2]
  have e4 : zsum (fun i => zsum (fun j => if zWsn A (16 * 16 + 16 * 16 + 16 * 16 + (i * 16 + j)) = true then zbo n (tm A) (16 * 16 + 16 * 16 + 16 * 16 + (i * 16 + j)) else 0) 16) 16 = zsum (fun i => if tH A i = true then 3 + zBits (tm A) else 0) (tm A) := by
    rw [← zsum_top (m := tm A) (f := fun i => if tH A i = true then 3 + zBits (tm A) else 0) (fun i hi => if_neg (fun z => by have := (hH i z).1; omega)) hm]
    refine zsum_ext fun i hi => ?_
    rw [← zsum_one (tH A i = true) (3 + zBits (tm A)) 15]
    refine zsum_ext fun j hj => ?_
    rw [(zWsn_h n A hi hj).1, (zWsn_h n A hi hj).2]
    simp only [Bool.and_eq_true, decide_eq_true_eq]
  rw [e1, e2, e3, e4]
  rw [show zsum (tlw n A) (tm A) = zsum (fun i => (((if tC A i = true then 3 + zBits (tm A) else 0) + (if tH A i = true then 3 + zBits (tm A) else 0)) + zsum (fun j => if i < j ∧ tD A i j = true then 3 + 2 * zBits (tm A) else 0) (tm A)) + zsum (fun p => if tG A p i = true then 3 + zBits n + zBits (tm A) else 0) n) (tm A) from rfl, zsum_addf, zsum_addf, zsum_addf]
  omega
theorem tLen_pl {n : Nat} {A : zTl} (hn : n ≤ 16) (hw : zTw n A) : tLen n A = zPl n A + zsum (tlS n A) 512 := by
  unfold tLen zPl
  rw [zbo_sum hn hw, tlX_sum hn hw.2.2.2.1]
theorem zp2_0 {g : Nat → Nat → Bool} {n : Nat} (h : ∀ p q, p < q → q < n → g p q = false) : zp2 g n = 0 := by
  unfold zp2
  refine zsum_z fun p _ => zcnt_z fun q hq => ?_
  by_cases e : p < q
  · rw [h p q e hq, Bool.and_false]
  · rw [decide_eq_false e]; rfl
/-- labels that part alike give the same numbers -/
theorem zNum_ext {f h : Nat → Nat} {n : Nat} (e : ∀ p q, p < n → q < n → (f p = f q ↔ h p = h q)) {p : Nat} (hp : p < n) : zNum f p = zNum h p ∧ zNew f p = zNew h p := by
  have h1 : ∀ p, p < n → zfl f (f p) p = zfl h (h p) p := fun p hp => zfind_ext fun q hq => decide_eq_decide.mpr (e q p (by omega) hp)
  have h2 : ∀ p, p < n → zNew f p = zNew h p := fun p hp => by unfold zNew; rw [h1 p hp]
  refine ⟨?_, h2 p hp⟩
  show zcnt (zNew f) (zfl f (f p) p) = zcnt (zNew h) (zfl h (h p) p)
  rw [h1 p hp]
  exact zcnt_ext fun i hi => h2 i (by have := zfl_le h (h p) p; omega)
/-- labels of n posts, those behind as that of post 0 -/
def zclp (n : Nat) (f : Nat → Nat) : Nat → Nat := fun q => if q < n then f q else f 0
def zcg (n : Nat) (f : Nat → Nat) : Nat → Nat := zNum (zclp n f)
def zcmx (n : Nat) (f : Nat → Nat) : Nat := zcnt (zNew (zclp n f)) n
theorem zcl_in {n : Nat} {f : Nat → Nat} {q : Nat} (h : q < n) : zclp n f q = f q := if_pos h
theorem zcg_in {n : Nat} {f : Nat → Nat} {q : Nat} (h : q < n) : zcg n f q = zNum f q := (zNum_ext (n := n) (fun p q hp hq => by rw [zcl_in hp, zcl_in hq]) h).1
theorem zcm_in (n : Nat) (f : Nat → Nat) : zcmx n f = zcnt (zNew f) n := zcnt_ext fun i hi => (zNum_ext (n := n) (fun p q hp hq => by rw [zcl_in hp, zcl_in hq]) hi).2
theorem zcg_ext {n : Nat} (hn : 0 < n) {f h : Nat → Nat} (e : ∀ p q, p < n → q < n → (f p = f q ↔ h p = h q)) : zcg n f = zcg n h ∧ zcmx n f = zcmx n h := by
  have e2 : ∀ p q, (zclp n f p = zclp n f q ↔ zclp n h p = zclp n h q) := fun p q => by
    unfold zclp
    by_cases a : p < n <;> by_cases b : q < n
    · rw [if_pos a, if_pos b, if_pos a, if_pos b]; exact e p q a b
    · rw [if_pos a, if_neg b, if_pos a, if_neg b]; exact e p 0 a hn
    · rw [if_neg a, if_pos b, if_neg a, if_pos b]; exact e 0 q hn b
    · rw [if_neg a, if_neg b, if_neg a, if_neg b]; exact ⟨fun _ => rfl, fun _ => rfl⟩
  exact ⟨funext fun p => (zNum_ext (n := p + 1) (fun p q _ _ => e2 p q) (Nat.lt_succ_self p)).1, zcnt_ext fun i hi => (zNum_ext (n := n) (fun p q _ _ => e2 p q) hi).2⟩
theorem zcg_lt {n : Nat} {f : Nat → Nat} {q : Nat} (h : q < n) : zcg n f q < zcmx n f := zNum_lt h
theorem zcm_le (n : Nat) (f : Nat → Nat) : zcmx n f ≤ n := zcnt_le _ _
theorem zcg_on {n : Nat} {f : Nat → Nat} {b : Nat} (h : b < zcmx n f) : ∃ p, p < n ∧ zcg n f p = b := by
  obtain ⟨p, h1, _, h3⟩ := zNum_on h
  exact ⟨p, h1, h3⟩
theorem zcg_inj {n : Nat} {f : Nat → Nat} {p q : Nat} (hp : p < n) (hq : q < n) : zcg n f p = zcg n f q ↔ f p = f q := by
  unfold zcg
  rw [zNum_inj, zcl_in hp, zcl_in hq]
theorem zcg_id {n : Nat} (hn : 0 < n) (f : Nat → Nat) : zcg n (zcg n f) = zcg n f ∧ zcmx n (zcg n f) = zcmx n f := zcg_ext hn (fun _ _ hp hq => zcg_inj hp hq)
theorem zcg_0 {n : Nat} (f : Nat → Nat) {q : Nat} (h : ¬ q < n) : zcg n f q = 0 := by
  have h1 : zcg n f q = zcg n f 0 := zNum_inj.mpr (by unfold zclp; rw [if_neg h]; split <;> rfl)
  have h2 := zNum_le (zclp n f) 0
  have h3 : zcg n f 0 ≤ 0 := h2
  omega
/-- the telling by the rule of any labels -/
def zRq (n : Nat) (T : Nat → Nat → Bool) (f : Nat → Nat) : zTl := zRul n (zcmx n f) T (zcg n f)
theorem zRq_ext {n : Nat} {T : Nat → Nat → Bool} (hn : 0 < n) {f h : Nat → Nat} (e : ∀ p q, p < n → q < n → (f p = f q ↔ h p = h q)) : zRq n T f = zRq n T h := by
  unfold zRq
  rw [(zcg_ext hn e).1, (zcg_ext hn e).2]
theorem zRq_w {n : Nat} {T : Nat → Nat → Bool} {f : Nat → Nat} (hn : n ≤ 16) : zTw n (zRq n T f) := by
  refine zTw_rul ?_ (zcnt_ext (fun i _ => ((zNum_id (zclp n f) i).2).symm)) (fun q hq => ⟨zcg_lt hq, (zNum_id (zclp n f) q).1⟩)
  have := zcm_le n f
  omega
/-- the length by the rule -/
def zLgt (n : Nat) (T : Nat → Nat → Bool) (f : Nat → Nat) : Nat := zPl n (zRq n T f)
theorem zLn_ext {n : Nat} {T : Nat → Nat → Bool} (hn : 0 < n) {f h : Nat → Nat} (e : ∀ p q, p < n → q < n → (f p = f q ↔ h p = h q)) : zLgt n T f = zLgt n T h := by
  unfold zLgt
  rw [zRq_ext hn e]
theorem tLen_rq {n : Nat} {T : Nat → Nat → Bool} {f : Nat → Nat} (hn : n ≤ 16) : tLen n (zRq n T f) = zLgt n T f := by
  rw [tLen_pl hn (zRq_w hn), zsum_z (fun k _ => ?_)]
  · rfl
  · have : tQ n (zRq n T f) k = 0 := zp2_0 fun p q _ _ => by
      have := (zRul_v (n := n) (m := zcmx n f) (T := T) (g := zcg n f) p q).2
      unfold tgC
      exact decide_eq_false (fun z => by have h2 : tv (zRul n (zcmx n f) T (zcg n f)) p q = 2 := z.2; omega)
    unfold tlS
    rw [this, if_neg (Nat.lt_irrefl _)]
theorem zPl_le {n : Nat} {A : zTl} (hn : n ≤ 16) (hm : tm A ≤ 16) : zPl n A ≤ 20000 := by
  have h1 := zBits_4 hn
  have h2 : n * zBits n ≤ 16 * 4 := Nat.mul_le_mul hn h1
  have h3 := zsum_le (f := fun c => if zWsn A c = true then zbo n (tm A) c else 0) (c := 11) (fun c => zite_le (zbo_le hn hm c)) 1024
  have h4 : (2 + 2 * zBits n) * zp2 (fun p q => decide (tv A p q = 1)) n ≤ 10 * 120 := Nat.mul_le_mul (by omega) (zp2_le _ hn)
  unfold zPl
  omega
theorem zLn_le {n : Nat} {T : Nat → Nat → Bool} {f : Nat → Nat} (hn : n ≤ 16) : zLgt n T f ≤ 20000 := zPl_le hn (zRq_w hn).1.1
