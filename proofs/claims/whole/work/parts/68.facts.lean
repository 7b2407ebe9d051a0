/-! what the Statement gives of the start (laid by wip/whole/gen/start.py) -/
def zF1 : List Cond := flatC (Jvm.Cond.and given_1 narrow_1)
def tmS (i : Nat) : Term := .string RX1 (zstr.getD i (0, "")).1
def tmV (i : Nat) : Term := .field (tmS i) "java/lang/String" "value" "[B"
def tmA : Term := .static "SeatStraps$Kinds" "ABOVE" "[I"
def pEx : List Nat := [98, 45, 55, 63, 73, 86, 157, 237, 112, 126, 141, 174, 194, 215]
def pCo : List Nat := [99, 46, 56, 64, 74, 87, 158, 238, 113, 127, 142, 175, 195, 216]
def pAr : List Nat := [100, 47, 57, 65, 75, 88, 159, 239, 114, 128, 143, 176, 196, 217]
def pLe : List Nat := [101, 48, 58, 66, 76, 89, 160, 240, 115, 129, 144, 177, 197, 218]
def pEl : List (List Nat) := [[102, 103, 104, 105, 106], [49, 50, 51, 52, 53, 54], [59, 60, 61], [67, 68, 69, 70], [77, 78, 79, 80, 81, 82], [90, 91, 92, 93], [161, 162, 163, 164], [241, 242, 243, 244], [116, 117, 118, 119], [130, 131, 132, 133], [145, 146, 147, 148], [178, 179, 180, 181, 182, 183], [198, 199, 200, 201, 202, 203], [219, 220, 221, 222, 223, 224]]
def pNe : List (List Nat) := [[0, 107, 108, 109, 110, 111, 170, 250, 125, 139, 154, 189, 209, 230], [107, 0, 62, 71, 83, 94, 165, 245, 120, 134, 149, 184, 204, 225], [108, 62, 0, 72, 84, 95, 166, 246, 121, 135, 150, 185, 205, 226], [109, 71, 72, 0, 85, 96, 167, 247, 122, 136, 151, 186, 206, 227], [110, 83, 84, 85, 0, 97, 168, 248, 123, 137, 152, 187, 207, 228], [111, 94, 95, 96, 97, 0, 169, 249, 124, 138, 153, 188, 208, 229], [170, 165, 166, 167, 168, 169, 0, 254, 171, 172, 173, 193, 213, 234], [250, 245, 246, 247, 248, 249, 254, 0, 251, 252, 253, 255, 256, 257], [125, 120, 121, 122, 123, 124, 171, 251, 0, 140, 155, 190, 210, 231], [139, 134, 135, 136, 137, 138, 172, 252, 140, 0, 156, 191, 211, 232], [154, 149, 150, 151, 152, 153, 173, 253, 155, 156, 0, 192, 212, 233], [189, 184, 185, 186, 187, 188, 193, 255, 190, 191, 192, 0, 214, 235], [209, 204, 205, 206, 207, 208, 213, 256, 210, 211, 212, 214, 0, 236], [230, 225, 226, 227, 228, 229, 234, 257, 231, 232, 233, 235, 236, 0]]
def pAb : List Nat := [7, 8, 9, 10, 11, 12]
def pStr : List Nat := [681, 676, 677, 678, 679, 680, 757, 766, 742, 755, 756, 763, 764, 765]
theorem f_ex : ∀ i : Nat, i < 14 → zF1[pEx.getD i 0]? = some (Cond.exactly (tmS i) "java/lang/String") := by decide +kernel
theorem f_co : ∀ i : Nat, i < 14 → zF1[pCo.getD i 0]? = some (Cond.eq (.field (tmS i) "java/lang/String" "coder" "B") (.int 0)) := by decide +kernel
theorem f_ar : ∀ i : Nat, i < 14 → zF1[pAr.getD i 0]? = some (Cond.arrayOf (tmV i) .byte) := by decide +kernel
theorem f_le : ∀ i : Nat, i < 14 → zF1[pLe.getD i 0]? = some (Cond.eq (.length (tmV i)) (.int (Int32.ofNat (zlen.getD i 0)))) := by decide +kernel
theorem f_el : ∀ i : Nat, i < 14 → ∀ j : Nat, j < zlen.getD i 0 → zF1[(pEl.getD i []).getD j 0]? = some (Cond.eq (.elem (tmV i) (.int (Int32.ofNat j))) (.int ((zbyt.getD i []).getD j 0))) := by decide +kernel
theorem f_ne : ∀ i : Nat, i < 14 → ∀ j : Nat, j < 14 → i ≠ j → zF1[(pNe.getD i []).getD j 0]? = some (Cond.not (Cond.eq (tmS i) (tmS j))) ∨ zF1[(pNe.getD i []).getD j 0]? = some (Cond.not (Cond.eq (tmS j) (tmS i))) := by decide +kernel
theorem f_ab : ∀ j : Nat, j < 6 → zF1[pAb.getD j 0]? = some (Cond.eq (.elem tmA (.int (Int32.ofNat j))) (.int (zi (zabove j)))) := by decide +kernel
theorem f_str : ∀ i : Nat, i < 14 → lw_tbl[pStr.getD i 0]? = some (Cond.stringRef RX1 (zstr.getD i (0, "")).1 (zstr.getD i (0, "")).2) := by decide +kernel
theorem f_nest : ∀ w ∈ znest ++ znestI, Cond.methodLinkNest w.1 w.2.1 w.2.2.1 w.2.2.2 ∈ lw_tbl := by decide +kernel
theorem f_ao : ∀ C ∈ [RX4, RX2, RX5], Cond.arrayOver (.object C) ∈ lw_tbl := by decide +kernel
theorem zarrI {args : Array Value} {s : State} {ty : FieldType} (h : (Cond.arrayClass ty).before args s = true) : ∃ cA : ClassId, ArrOfT s cA ty ∧ s.vm.findClass ("[" ++ ty.toString) = some cA := by
  obtain ⟨cA, kA, comp, h1, h2, h3⟩ := Cond.arrayClass_spec h
  exact ⟨cA, fun N z => ⟨fun k h => (by cases h), kA, h2, comp, h3⟩, h1⟩
theorem zarrQ {s : State} {C : String} (h : va_AO C s) : ∃ cA : ClassId, ArrOfT s cA (.object C) ∧ va_RA s cA (.object C) := by
  obtain ⟨comp, cA, kA, h1, h2, h3, h4, h5⟩ := Cond.arrayOver_spec h
  exact ⟨cA, fun N z => ⟨fun k h => (by cases h), kA, h3, comp, h4⟩, kA, comp, h3, h4, h1, h5⟩
set_option maxRecDepth 100000 in
theorem zfacts {s : State} {b : Nat} (hts : ∀ w ∈ lw_tbl, w.before #[Value.ref b] s = true) (hgv : (Jvm.Cond.and given_1 narrow_1).before #[Value.ref b] s = true) : ∃ Γ : zC, va_K (zD Γ) vwCl (ztys Γ) s ∧ zIv s ∧ ∀ a : Nat → Int → Nat, zEv (zD Γ, zY Γ, a, zt Γ, zaK Γ, zaV Γ) (fun q => s.heap.size ≤ q) s s.heap := by
  have hs : ∀ w ∈ zF1, w.before #[Value.ref b] s = true := flat_of_before _ hgv
  have hA : ∀ a : Nat, a < s.heap.size → ¬ (fun q => s.heap.size ≤ q) a := fun a h => Nat.not_le.mpr h
  have hg : ∀ w ∈ tblG, w.before #[Value.ref b] s = true := fun w hw => hts w (List.mem_filter.mp hw).1
  obtain ⟨c0, i0, k0⟩ := u_known (n := 6) hg zk0.2.1 (hg _ in0.1)
  obtain ⟨c1, i1, k1⟩ := u_known (n := 2) hg zk1.2.1 (hg _ in1.1)
  obtain ⟨c2, i2, k2⟩ := u_known (n := 7) hg zk2.2.1 (hg _ in2.1)
  obtain ⟨c3, i3, k3⟩ := u_known (n := 5) hg zk3.2.1 (hg _ in3.1)
  obtain ⟨c4, i4, k4⟩ := u_known (n := 3) hg zk4.2.1 (hg _ in4.1)
  obtain ⟨c5, i5, k5⟩ := u_known (n := 6) hg zk5.2.1 (hg _ in5.1)
  obtain ⟨c6, i6, k6⟩ := u_known (n := 5) hg zk6.2.1 (hg _ in6.1)
  obtain ⟨c7, i7, k7⟩ := u_known (n := 8) hg zk7.2.1 (hg _ in7.1)
  obtain ⟨c8, i8, k8⟩ := u_known (n := 19) hg zk8.2.1 (hg _ in8.1)
  have hI : zIv s := ⟨fun C hC => va_AO.of (hts _ (f_ao C hC)), fun w hw => va_Nw.of rfl (hts _ (f_nest w (List.mem_append_right _ hw)))⟩
  obtain ⟨y0, a0, r0⟩ := zarrI (hg _ ar_int)
  obtain ⟨y1, a1, r1⟩ := zarrI (hg _ ar_long)
  obtain ⟨y2, a2, r2⟩ := zarrQ (hI.1 RX4 List.mem_cons_self)
  obtain ⟨y3, a3, r3⟩ := zarrQ (hI.1 RX2 (List.mem_cons_of_mem _ List.mem_cons_self))
  obtain ⟨y4, a4, r4⟩ := zarrQ (hI.1 RX5 (List.mem_cons_of_mem _ (List.mem_cons_of_mem _ List.mem_cons_self)))
  obtain ⟨t, ht, hT⟩ := va_Tof (tm := tmA) (ty := .int) (N := 6) (f := fun j => .int (zi (zabove j))) (A := fun q => s.heap.size ≤ q) (by decide) (hs _ (List.mem_of_getElem? (i := 5) (by decide +kernel))) (va_eqt (hs _ (List.mem_of_getElem? (i := 6) (by decide +kernel)))) (fun j hj => va_eqt (hs _ (List.mem_of_getElem? (f_ab j hj)))) hA
  obtain ⟨adK, adV, hK, hev⟩ := vk_Sof (args := #[Value.ref b]) (s := s) (N := 14) (tm := tmS) (len := zlen) (byt := zbyt) (A := fun q => s.heap.size ≤ q) (by decide) (fun i hi => hs _ (List.mem_of_getElem? (f_ex i hi))) (fun i hi => hs _ (List.mem_of_getElem? (f_co i hi))) (fun i hi => hs _ (List.mem_of_getElem? (f_ar i hi))) (fun i hi => hs _ (List.mem_of_getElem? (f_le i hi))) (fun i hi j hj => hs _ (List.mem_of_getElem? (f_el i hi j hj)))
    (fun i j hi hj hij => (f_ne i hi j hj hij).imp (fun q => hs _ (List.mem_of_getElem? q)) (fun q => hs _ (List.mem_of_getElem? q))) hA
  refine ⟨((fun k => [c0, c1, c2, c3, c4, c5, c6, c7, c8].getD k c0, fun k => [i0, i1, i2, i3, i4, i5, i6, i7, i8].getD k i0), (fun k => [y0, y1, y2, y3, y4].getD k y0), (fun _ _ => 0), t, adK, adV), ⟨?_, ?_⟩, hI, fun a => ⟨?_, hT, ?_, ?_, hK, ?_, ?_⟩⟩
  · intro k q hq
    match k, hq with
    | 0, hq => cases hq; exact k0
    | 1, hq => cases hq; exact k1
    | 2, hq => cases hq; exact k2
    | 3, hq => cases hq; exact k3
    | 4, hq => cases hq; exact k4
    | 5, hq => cases hq; exact k5
    | 6, hq => cases hq; exact k6
    | 7, hq => cases hq; exact k7
    | 8, hq => cases hq; exact k8
    | k + 9, hq => simp [vwCl] at hq
  · intro k q hq
    match k, hq with
    | 0, hq => cases hq; exact ⟨a0, r0⟩
    | 1, hq => cases hq; exact ⟨a1, r1⟩
    | 2, hq => cases hq; exact ⟨a2, r2⟩
    | 3, hq => cases hq; exact ⟨a3, r3⟩
    | 4, hq => cases hq; exact ⟨a4, r4⟩
    | k + 5, hq => simp [ztys] at hq
  · exact va_Zref (args := #[Value.ref b]) (hts _ (List.mem_of_getElem? (i := 416) (by decide +kernel))) (hts _ (List.mem_of_getElem? (i := 71) (by decide +kernel))) ht hA
  · exact va_Zof (args := #[Value.ref b]) (hts _ (List.mem_of_getElem? (i := 695) (by decide +kernel))) (hts _ (List.mem_of_getElem? (i := 75) (by decide +kernel))) (va_eqt (hs _ (List.mem_of_getElem? (i := 13) (by decide +kernel)))) hA
  · exact va_Zqof (args := #[Value.ref b]) (hts _ (List.mem_of_getElem? (i := 711) (by decide +kernel))) (hts _ (List.mem_of_getElem? (i := 77) (by decide +kernel))) (hs _ (List.mem_of_getElem? (i := 14) (by decide +kernel))) hA
  · exact fun i hi => vk_R.of (hts _ (List.mem_of_getElem? (f_str i hi))) (hev i hi)
  · exact fun w hw => va_Nw.of rfl (hts _ (f_nest w (List.mem_append_left _ hw)))
