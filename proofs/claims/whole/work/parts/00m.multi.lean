/-! ===== two-dimensional arrays of ints, made at once ===== -/
section ZM
variable {p : Program} {l : Launch} {e : Env} {R : Room} {s : State} {m : MethodId} {args : Array Value} {below : List Frame} {meth : Method} {c : Code} {H : Heap} {locs : List Loc} {cells slots : Nat} {Q : State → Prop}
theorem zm_out (cA : ClassId) (N h0 : Nat) : ∀ i, Jvm.Free.Multi.outerC cA N h0 i = arrV cA N (fun j => if j < i then .ref (h0 + 1 + j) else .null)
  | 0 => by
    show ({ cls := cA, slots := Array.replicate N .null, vm := .none } : Cell) = _
    rw [arrV_new]
    congr 1
  | i + 1 => by
    show (Jvm.Free.Multi.outerC cA N h0 i).setSlot i (.ref (h0 + 1 + i)) = _
    rw [zm_out cA N h0 i, arrV_store]
    congr 1
    funext j
    unfold updV
    by_cases z : j = i
    · rw [if_pos z, if_pos (by omega), z]
    · rw [if_neg z]
      show (if j < i then Value.ref (h0 + 1 + j) else Value.null) = _
      by_cases y : j < i
      · rw [if_pos y, if_pos (by omega)]
      · rw [if_neg y, if_neg (by omega)]
theorem zm_cong {cA : ClassId} {N : Nat} {f g : Nat → Value} (h : ∀ j, j < N → f j = g j) : arrV cA N f = arrV cA N g := by
  unfold arrV
  congr 2
  funext j
  exact h j.1 j.2
theorem zm_mna {cc : ByteArray} (hexec : p.tables.exec = Jvm.exec) (hb : c.code = cc) {own : String} {index : Nat} (hown : s.vm.findClass own = some m.cls) (hclink : (Cond.classLink own index "[[I").before args s = true) (hover : (Cond.arrayOver (.array .int)).before args s = true) (harr : (Cond.arrayClass .int).before args s = true) {n k : Int32} {rest : List Value} {pc : Nat} {ls : Array Slot} (hn : ¬ n < 0) (hk : ¬ k < 0) (hn2 : n.toNatClampNeg ≤ 1000) (hk2 : k.toNatClampNeg ≤ 1000) (hcells : cells + (1 + n.toNatClampNeg) ≤ R.cells) (hslots : slots + (n.toNatClampNeg + n.toNatClampNeg * k.toNatClampNeg) ≤ R.slots) (hdg : decode cc pc = .ok (.multianewarray index 2, 4))
    (kk : ∀ (H' : Heap) (cA comp : ClassId), s.vm.findClass "[[I" = some cA → s.vm.findClass "[I" = some comp → H'.size = H.size + 1 + n.toNatClampNeg → (∀ q, q < H.size → H'[q]? = H[q]?) → H'[H.size]? = some (arrV cA n.toNatClampNeg (fun j => .ref (H.size + 1 + j))) → (∀ j, j < n.toNatClampNeg → H'[H.size + 1 + j]? = some (arrV comp k.toNatClampNeg (fun _ => .int 0))) →
      W p l e R s m args below meth c H' locs (cells + 1 + n.toNatClampNeg) (slots + n.toNatClampNeg + n.toNatClampNeg * k.toNatClampNeg) Q (F0 m (pc + 4) ls (.ref H.size :: rest))) :
    W p l e R s m args below meth c H locs cells slots Q (F0 m pc ls (.int k :: .int n :: rest)) := by
  intro T hT X
  obtain ⟨vm₁, cA, comp, hW, hfA, hfC, -, -, X1, step⟩ := Jvm.Stand.multianewarray2F X hexec (own := own) (index := index) (ty := .int) hown hclink hover harr (g := F0 m pc ls (.int k :: .int n :: rest)) rfl (by rw [hb]; exact hdg) (n := n) (k := k) (rest := rest) rfl hn hk (by omega) (by show _ * 4 ≤ _; omega) (by omega) rfl rfl hcells hslots
  obtain ⟨f1, f2, f3, f4⟩ := Jvm.Free.Multi.fill_facts (T.setVm vm₁) cA comp n.toNatClampNeg k.toNatClampNeg (defaultValue .int) n.toNatClampNeg
  obtain ⟨o1, o2, o3⟩ := Jvm.Free.Multi.outerC_facts cA n.toNatClampNeg (T.setVm vm₁).heap.size n.toNatClampNeg
  have hH : (T.setVm vm₁).heap = H := hT
  have eO : Jvm.Free.Multi.outerC cA n.toNatClampNeg (T.setVm vm₁).heap.size n.toNatClampNeg = arrV cA n.toNatClampNeg (fun j => .ref (H.size + 1 + j)) := by
    rw [zm_out, hH]
    exact zm_cong (fun j hj => if_pos hj)
  obtain ⟨t, a1, b1⟩ := kk (Jvm.Free.Multi.fill (T.setVm vm₁) cA comp n.toNatClampNeg k.toNatClampNeg (defaultValue .int) n.toNatClampNeg).heap cA comp hfA hfC (by rw [f1, hH]) (fun q hq => by
      rw [Jvm.Free.Multi.fill_old (T.setVm vm₁) cA comp _ _ _ (by rw [hH]; exact hq), hH]) (by rw [← eO, ← hH]; exact f2) (fun j hj => by
      rw [← arrV_new, ← hH]; exact Jvm.Free.Multi.fill_inner (T.setVm vm₁) cA comp _ _ _ _ j hj) _ rfl X1
  refine ⟨t, step t ?_, b1⟩
  rw [hT]
  exact a1
end ZM
