def KS : Type := Int32 × Int32 × Int32 × Int32 × (Nat → Int32) × (Nat → Int32) × (Nat → Int32) × (Nat → Int64) × (Nat → Int32) × (Nat → Int32) × (Nat → Int32) × (Nat → Int32)
def KS.stop (S : KS) : Int32 := S.1
def KS.faults (S : KS) : Int32 := S.2.1
def KS.latest (S : KS) : Int32 := S.2.2.1
def KS.made (S : KS) : Int32 := S.2.2.2.1
def KS.forms (S : KS) : Nat → Int32 := S.2.2.2.2.1
def KS.lens (S : KS) : Nat → Int32 := S.2.2.2.2.2.1
def KS.levels (S : KS) : Nat → Int32 := S.2.2.2.2.2.2.1
def KS.cells (S : KS) : Nat → Int64 := S.2.2.2.2.2.2.2.1
def KS.plen (S : KS) : Nat → Int32 := S.2.2.2.2.2.2.2.2.1
def KS.pact (S : KS) : Nat → Int32 := S.2.2.2.2.2.2.2.2.2.1
def KS.py (S : KS) : Nat → Int32 := S.2.2.2.2.2.2.2.2.2.2.1
def KS.pn (S : KS) : Nat → Int32 := S.2.2.2.2.2.2.2.2.2.2.2
def mkKS (stop : Int32) (faults : Int32) (latest : Int32) (made : Int32) (forms : (Nat → Int32)) (lens : (Nat → Int32)) (levels : (Nat → Int32)) (cells : (Nat → Int64)) (plen : (Nat → Int32)) (pact : (Nat → Int32)) (py : (Nat → Int32)) (pn : (Nat → Int32)) : KS := (stop, faults, latest, made, forms, lens, levels, cells, plen, pact, py, pn)
def KS.set_stop (S : KS) (v : Int32) : KS := mkKS v S.faults S.latest S.made S.forms S.lens S.levels S.cells S.plen S.pact S.py S.pn
def KS.set_faults (S : KS) (v : Int32) : KS := mkKS S.stop v S.latest S.made S.forms S.lens S.levels S.cells S.plen S.pact S.py S.pn
def KS.set_latest (S : KS) (v : Int32) : KS := mkKS S.stop S.faults v S.made S.forms S.lens S.levels S.cells S.plen S.pact S.py S.pn
def KS.set_made (S : KS) (v : Int32) : KS := mkKS S.stop S.faults S.latest v S.forms S.lens S.levels S.cells S.plen S.pact S.py S.pn
def KS.set_forms (S : KS) (v : (Nat → Int32)) : KS := mkKS S.stop S.faults S.latest S.made v S.lens S.levels S.cells S.plen S.pact S.py S.pn
def KS.set_lens (S : KS) (v : (Nat → Int32)) : KS := mkKS S.stop S.faults S.latest S.made S.forms v S.levels S.cells S.plen S.pact S.py S.pn
def KS.set_levels (S : KS) (v : (Nat → Int32)) : KS := mkKS S.stop S.faults S.latest S.made S.forms S.lens v S.cells S.plen S.pact S.py S.pn
def KS.set_cells (S : KS) (v : (Nat → Int64)) : KS := mkKS S.stop S.faults S.latest S.made S.forms S.lens S.levels v S.plen S.pact S.py S.pn
def KS.set_plen (S : KS) (v : (Nat → Int32)) : KS := mkKS S.stop S.faults S.latest S.made S.forms S.lens S.levels S.cells v S.pact S.py S.pn
def KS.set_pact (S : KS) (v : (Nat → Int32)) : KS := mkKS S.stop S.faults S.latest S.made S.forms S.lens S.levels S.cells S.plen v S.py S.pn
def KS.set_py (S : KS) (v : (Nat → Int32)) : KS := mkKS S.stop S.faults S.latest S.made S.forms S.lens S.levels S.cells S.plen S.pact v S.pn
def KS.set_pn (S : KS) (v : (Nat → Int32)) : KS := mkKS S.stop S.faults S.latest S.made S.forms S.lens S.levels S.cells S.plen S.pact S.py v
theorem KS.stop_set_stop (S : KS) (v : Int32) : (S.set_stop v).stop = v := rfl
theorem KS.faults_set_stop (S : KS) (v : Int32) : (S.set_stop v).faults = S.faults := rfl
theorem KS.latest_set_stop (S : KS) (v : Int32) : (S.set_stop v).latest = S.latest := rfl
theorem KS.made_set_stop (S : KS) (v : Int32) : (S.set_stop v).made = S.made := rfl
theorem KS.forms_set_stop (S : KS) (v : Int32) : (S.set_stop v).forms = S.forms := rfl
theorem KS.lens_set_stop (S : KS) (v : Int32) : (S.set_stop v).lens = S.lens := rfl
theorem KS.levels_set_stop (S : KS) (v : Int32) : (S.set_stop v).levels = S.levels := rfl
theorem KS.cells_set_stop (S : KS) (v : Int32) : (S.set_stop v).cells = S.cells := rfl
theorem KS.plen_set_stop (S : KS) (v : Int32) : (S.set_stop v).plen = S.plen := rfl
theorem KS.pact_set_stop (S : KS) (v : Int32) : (S.set_stop v).pact = S.pact := rfl
theorem KS.py_set_stop (S : KS) (v : Int32) : (S.set_stop v).py = S.py := rfl
theorem KS.pn_set_stop (S : KS) (v : Int32) : (S.set_stop v).pn = S.pn := rfl
theorem KS.stop_set_faults (S : KS) (v : Int32) : (S.set_faults v).stop = S.stop := rfl
theorem KS.faults_set_faults (S : KS) (v : Int32) : (S.set_faults v).faults = v := rfl
theorem KS.latest_set_faults (S : KS) (v : Int32) : (S.set_faults v).latest = S.latest := rfl
theorem KS.made_set_faults (S : KS) (v : Int32) : (S.set_faults v).made = S.made := rfl
theorem KS.forms_set_faults (S : KS) (v : Int32) : (S.set_faults v).forms = S.forms := rfl
theorem KS.lens_set_faults (S : KS) (v : Int32) : (S.set_faults v).lens = S.lens := rfl
theorem KS.levels_set_faults (S : KS) (v : Int32) : (S.set_faults v).levels = S.levels := rfl
theorem KS.cells_set_faults (S : KS) (v : Int32) : (S.set_faults v).cells = S.cells := rfl
theorem KS.plen_set_faults (S : KS) (v : Int32) : (S.set_faults v).plen = S.plen := rfl
theorem KS.pact_set_faults (S : KS) (v : Int32) : (S.set_faults v).pact = S.pact := rfl
theorem KS.py_set_faults (S : KS) (v : Int32) : (S.set_faults v).py = S.py := rfl
theorem KS.pn_set_faults (S : KS) (v : Int32) : (S.set_faults v).pn = S.pn := rfl
theorem KS.stop_set_latest (S : KS) (v : Int32) : (S.set_latest v).stop = S.stop := rfl
theorem KS.faults_set_latest (S : KS) (v : Int32) : (S.set_latest v).faults = S.faults := rfl
theorem KS.latest_set_latest (S : KS) (v : Int32) : (S.set_latest v).latest = v := rfl
theorem KS.made_set_latest (S : KS) (v : Int32) : (S.set_latest v).made = S.made := rfl
theorem KS.forms_set_latest (S : KS) (v : Int32) : (S.set_latest v).forms = S.forms := rfl
theorem KS.lens_set_latest (S : KS) (v : Int32) : (S.set_latest v).lens = S.lens := rfl
theorem KS.levels_set_latest (S : KS) (v : Int32) : (S.set_latest v).levels = S.levels := rfl
theorem KS.cells_set_latest (S : KS) (v : Int32) : (S.set_latest v).cells = S.cells := rfl
theorem KS.plen_set_latest (S : KS) (v : Int32) : (S.set_latest v).plen = S.plen := rfl
theorem KS.pact_set_latest (S : KS) (v : Int32) : (S.set_latest v).pact = S.pact := rfl
theorem KS.py_set_latest (S : KS) (v : Int32) : (S.set_latest v).py = S.py := rfl
theorem KS.pn_set_latest (S : KS) (v : Int32) : (S.set_latest v).pn = S.pn := rfl
theorem KS.stop_set_made (S : KS) (v : Int32) : (S.set_made v).stop = S.stop := rfl
theorem KS.faults_set_made (S : KS) (v : Int32) : (S.set_made v).faults = S.faults := rfl
theorem KS.latest_set_made (S : KS) (v : Int32) : (S.set_made v).latest = S.latest := rfl
theorem KS.made_set_made (S : KS) (v : Int32) : (S.set_made v).made = v := rfl
theorem KS.forms_set_made (S : KS) (v : Int32) : (S.set_made v).forms = S.forms := rfl
theorem KS.lens_set_made (S : KS) (v : Int32) : (S.set_made v).lens = S.lens := rfl
theorem KS.levels_set_made (S : KS) (v : Int32) : (S.set_made v).levels = S.levels := rfl
theorem KS.cells_set_made (S : KS) (v : Int32) : (S.set_made v).cells = S.cells := rfl
theorem KS.plen_set_made (S : KS) (v : Int32) : (S.set_made v).plen = S.plen := rfl
theorem KS.pact_set_made (S : KS) (v : Int32) : (S.set_made v).pact = S.pact := rfl
theorem KS.py_set_made (S : KS) (v : Int32) : (S.set_made v).py = S.py := rfl
theorem KS.pn_set_made (S : KS) (v : Int32) : (S.set_made v).pn = S.pn := rfl
theorem KS.stop_set_forms (S : KS) (v : (Nat → Int32)) : (S.set_forms v).stop = S.stop := rfl
theorem KS.faults_set_forms (S : KS) (v : (Nat → Int32)) : (S.set_forms v).faults = S.faults := rfl
theorem KS.latest_set_forms (S : KS) (v : (Nat → Int32)) : (S.set_forms v).latest = S.latest := rfl
theorem KS.made_set_forms (S : KS) (v : (Nat → Int32)) : (S.set_forms v).made = S.made := rfl
theorem KS.forms_set_forms (S : KS) (v : (Nat → Int32)) : (S.set_forms v).forms = v := rfl
theorem KS.lens_set_forms (S : KS) (v : (Nat → Int32)) : (S.set_forms v).lens = S.lens := rfl
theorem KS.levels_set_forms (S : KS) (v : (Nat → Int32)) : (S.set_forms v).levels = S.levels := rfl
theorem KS.cells_set_forms (S : KS) (v : (Nat → Int32)) : (S.set_forms v).cells = S.cells := rfl
theorem KS.plen_set_forms (S : KS) (v : (Nat → Int32)) : (S.set_forms v).plen = S.plen := rfl
theorem KS.pact_set_forms (S : KS) (v : (Nat → Int32)) : (S.set_forms v).pact = S.pact := rfl
theorem KS.py_set_forms (S : KS) (v : (Nat → Int32)) : (S.set_forms v).py = S.py := rfl
theorem KS.pn_set_forms (S : KS) (v : (Nat → Int32)) : (S.set_forms v).pn = S.pn := rfl
theorem KS.stop_set_lens (S : KS) (v : (Nat → Int32)) : (S.set_lens v).stop = S.stop := rfl
theorem KS.faults_set_lens (S : KS) (v : (Nat → Int32)) : (S.set_lens v).faults = S.faults := rfl
theorem KS.latest_set_lens (S : KS) (v : (Nat → Int32)) : (S.set_lens v).latest = S.latest := rfl
theorem KS.made_set_lens (S : KS) (v : (Nat → Int32)) : (S.set_lens v).made = S.made := rfl
theorem KS.forms_set_lens (S : KS) (v : (Nat → Int32)) : (S.set_lens v).forms = S.forms := rfl
theorem KS.lens_set_lens (S : KS) (v : (Nat → Int32)) : (S.set_lens v).lens = v := rfl
theorem KS.levels_set_lens (S : KS) (v : (Nat → Int32)) : (S.set_lens v).levels = S.levels := rfl
theorem KS.cells_set_lens (S : KS) (v : (Nat → Int32)) : (S.set_lens v).cells = S.cells := rfl
theorem KS.plen_set_lens (S : KS) (v : (Nat → Int32)) : (S.set_lens v).plen = S.plen := rfl
theorem KS.pact_set_lens (S : KS) (v : (Nat → Int32)) : (S.set_lens v).pact = S.pact := rfl
theorem KS.py_set_lens (S : KS) (v : (Nat → Int32)) : (S.set_lens v).py = S.py := rfl
theorem KS.pn_set_lens (S : KS) (v : (Nat → Int32)) : (S.set_lens v).pn = S.pn := rfl
theorem KS.stop_set_levels (S : KS) (v : (Nat → Int32)) : (S.set_levels v).stop = S.stop := rfl
theorem KS.faults_set_levels (S : KS) (v : (Nat → Int32)) : (S.set_levels v).faults = S.faults := rfl
theorem KS.latest_set_levels (S : KS) (v : (Nat → Int32)) : (S.set_levels v).latest = S.latest := rfl
theorem KS.made_set_levels (S : KS) (v : (Nat → Int32)) : (S.set_levels v).made = S.made := rfl
theorem KS.forms_set_levels (S : KS) (v : (Nat → Int32)) : (S.set_levels v).forms = S.forms := rfl
theorem KS.lens_set_levels (S : KS) (v : (Nat → Int32)) : (S.set_levels v).lens = S.lens := rfl
theorem KS.levels_set_levels (S : KS) (v : (Nat → Int32)) : (S.set_levels v).levels = v := rfl
theorem KS.cells_set_levels (S : KS) (v : (Nat → Int32)) : (S.set_levels v).cells = S.cells := rfl
theorem KS.plen_set_levels (S : KS) (v : (Nat → Int32)) : (S.set_levels v).plen = S.plen := rfl
theorem KS.pact_set_levels (S : KS) (v : (Nat → Int32)) : (S.set_levels v).pact = S.pact := rfl
theorem KS.py_set_levels (S : KS) (v : (Nat → Int32)) : (S.set_levels v).py = S.py := rfl
theorem KS.pn_set_levels (S : KS) (v : (Nat → Int32)) : (S.set_levels v).pn = S.pn := rfl
theorem KS.stop_set_cells (S : KS) (v : (Nat → Int64)) : (S.set_cells v).stop = S.stop := rfl
theorem KS.faults_set_cells (S : KS) (v : (Nat → Int64)) : (S.set_cells v).faults = S.faults := rfl
theorem KS.latest_set_cells (S : KS) (v : (Nat → Int64)) : (S.set_cells v).latest = S.latest := rfl
theorem KS.made_set_cells (S : KS) (v : (Nat → Int64)) : (S.set_cells v).made = S.made := rfl
theorem KS.forms_set_cells (S : KS) (v : (Nat → Int64)) : (S.set_cells v).forms = S.forms := rfl
theorem KS.lens_set_cells (S : KS) (v : (Nat → Int64)) : (S.set_cells v).lens = S.lens := rfl
theorem KS.levels_set_cells (S : KS) (v : (Nat → Int64)) : (S.set_cells v).levels = S.levels := rfl
theorem KS.cells_set_cells (S : KS) (v : (Nat → Int64)) : (S.set_cells v).cells = v := rfl
theorem KS.plen_set_cells (S : KS) (v : (Nat → Int64)) : (S.set_cells v).plen = S.plen := rfl
theorem KS.pact_set_cells (S : KS) (v : (Nat → Int64)) : (S.set_cells v).pact = S.pact := rfl
theorem KS.py_set_cells (S : KS) (v : (Nat → Int64)) : (S.set_cells v).py = S.py := rfl
theorem KS.pn_set_cells (S : KS) (v : (Nat → Int64)) : (S.set_cells v).pn = S.pn := rfl
theorem KS.stop_set_plen (S : KS) (v : (Nat → Int32)) : (S.set_plen v).stop = S.stop := rfl
theorem KS.faults_set_plen (S : KS) (v : (Nat → Int32)) : (S.set_plen v).faults = S.faults := rfl
theorem KS.latest_set_plen (S : KS) (v : (Nat → Int32)) : (S.set_plen v).latest = S.latest := rfl
theorem KS.made_set_plen (S : KS) (v : (Nat → Int32)) : (S.set_plen v).made = S.made := rfl
theorem KS.forms_set_plen (S : KS) (v : (Nat → Int32)) : (S.set_plen v).forms = S.forms := rfl
theorem KS.lens_set_plen (S : KS) (v : (Nat → Int32)) : (S.set_plen v).lens = S.lens := rfl
theorem KS.levels_set_plen (S : KS) (v : (Nat → Int32)) : (S.set_plen v).levels = S.levels := rfl
theorem KS.cells_set_plen (S : KS) (v : (Nat → Int32)) : (S.set_plen v).cells = S.cells := rfl
theorem KS.plen_set_plen (S : KS) (v : (Nat → Int32)) : (S.set_plen v).plen = v := rfl
theorem KS.pact_set_plen (S : KS) (v : (Nat → Int32)) : (S.set_plen v).pact = S.pact := rfl
theorem KS.py_set_plen (S : KS) (v : (Nat → Int32)) : (S.set_plen v).py = S.py := rfl
theorem KS.pn_set_plen (S : KS) (v : (Nat → Int32)) : (S.set_plen v).pn = S.pn := rfl
theorem KS.stop_set_pact (S : KS) (v : (Nat → Int32)) : (S.set_pact v).stop = S.stop := rfl
theorem KS.faults_set_pact (S : KS) (v : (Nat → Int32)) : (S.set_pact v).faults = S.faults := rfl
theorem KS.latest_set_pact (S : KS) (v : (Nat → Int32)) : (S.set_pact v).latest = S.latest := rfl
theorem KS.made_set_pact (S : KS) (v : (Nat → Int32)) : (S.set_pact v).made = S.made := rfl
theorem KS.forms_set_pact (S : KS) (v : (Nat → Int32)) : (S.set_pact v).forms = S.forms := rfl
theorem KS.lens_set_pact (S : KS) (v : (Nat → Int32)) : (S.set_pact v).lens = S.lens := rfl
theorem KS.levels_set_pact (S : KS) (v : (Nat → Int32)) : (S.set_pact v).levels = S.levels := rfl
theorem KS.cells_set_pact (S : KS) (v : (Nat → Int32)) : (S.set_pact v).cells = S.cells := rfl
theorem KS.plen_set_pact (S : KS) (v : (Nat → Int32)) : (S.set_pact v).plen = S.plen := rfl
theorem KS.pact_set_pact (S : KS) (v : (Nat → Int32)) : (S.set_pact v).pact = v := rfl
theorem KS.py_set_pact (S : KS) (v : (Nat → Int32)) : (S.set_pact v).py = S.py := rfl
theorem KS.pn_set_pact (S : KS) (v : (Nat → Int32)) : (S.set_pact v).pn = S.pn := rfl
theorem KS.stop_set_py (S : KS) (v : (Nat → Int32)) : (S.set_py v).stop = S.stop := rfl
theorem KS.faults_set_py (S : KS) (v : (Nat → Int32)) : (S.set_py v).faults = S.faults := rfl
theorem KS.latest_set_py (S : KS) (v : (Nat → Int32)) : (S.set_py v).latest = S.latest := rfl
theorem KS.made_set_py (S : KS) (v : (Nat → Int32)) : (S.set_py v).made = S.made := rfl
theorem KS.forms_set_py (S : KS) (v : (Nat → Int32)) : (S.set_py v).forms = S.forms := rfl
theorem KS.lens_set_py (S : KS) (v : (Nat → Int32)) : (S.set_py v).lens = S.lens := rfl
theorem KS.levels_set_py (S : KS) (v : (Nat → Int32)) : (S.set_py v).levels = S.levels := rfl
theorem KS.cells_set_py (S : KS) (v : (Nat → Int32)) : (S.set_py v).cells = S.cells := rfl
theorem KS.plen_set_py (S : KS) (v : (Nat → Int32)) : (S.set_py v).plen = S.plen := rfl
theorem KS.pact_set_py (S : KS) (v : (Nat → Int32)) : (S.set_py v).pact = S.pact := rfl
theorem KS.py_set_py (S : KS) (v : (Nat → Int32)) : (S.set_py v).py = v := rfl
theorem KS.pn_set_py (S : KS) (v : (Nat → Int32)) : (S.set_py v).pn = S.pn := rfl
theorem KS.stop_set_pn (S : KS) (v : (Nat → Int32)) : (S.set_pn v).stop = S.stop := rfl
theorem KS.faults_set_pn (S : KS) (v : (Nat → Int32)) : (S.set_pn v).faults = S.faults := rfl
theorem KS.latest_set_pn (S : KS) (v : (Nat → Int32)) : (S.set_pn v).latest = S.latest := rfl
theorem KS.made_set_pn (S : KS) (v : (Nat → Int32)) : (S.set_pn v).made = S.made := rfl
theorem KS.forms_set_pn (S : KS) (v : (Nat → Int32)) : (S.set_pn v).forms = S.forms := rfl
theorem KS.lens_set_pn (S : KS) (v : (Nat → Int32)) : (S.set_pn v).lens = S.lens := rfl
theorem KS.levels_set_pn (S : KS) (v : (Nat → Int32)) : (S.set_pn v).levels = S.levels := rfl
theorem KS.cells_set_pn (S : KS) (v : (Nat → Int32)) : (S.set_pn v).cells = S.cells := rfl
theorem KS.plen_set_pn (S : KS) (v : (Nat → Int32)) : (S.set_pn v).plen = S.plen := rfl
theorem KS.pact_set_pn (S : KS) (v : (Nat → Int32)) : (S.set_pn v).pact = S.pact := rfl
theorem KS.py_set_pn (S : KS) (v : (Nat → Int32)) : (S.set_pn v).py = S.py := rfl
theorem KS.pn_set_pn (S : KS) (v : (Nat → Int32)) : (S.set_pn v).pn = v := rfl
def cw (cI cJ : ClassId) (a : Nat → Nat) (S : KS) : va_W := [(a 0, .inr (2, [.ref (a 1), .ref (a 2), .int S.stop, .int S.faults, .int S.latest])), (a 1, .inr (1, [.ref (a 3), .ref (a 4), .ref (a 5), .ref (a 6), .int S.made])), (a 2, .inr (0, [.ref (a 7), .ref (a 8), .ref (a 9), .ref (a 10)])), (a 3, .inl (cI, 60, .inl S.forms)), (a 4, .inl (cI, 60, .inl S.lens)), (a 5, .inl (cI, 60, .inl S.levels)), (a 6, .inl (cJ, 480, .inr (.inl S.cells))), (a 7, .inl (cI, 6, .inl S.plen)), (a 8, .inl (cI, 72, .inl S.pact)), (a 9, .inl (cI, 72, .inl S.py)), (a 10, .inl (cI, 72, .inl S.pn))]
theorem cw_set_stop (cI cJ : ClassId) (a : Nat → Nat) (S : KS) (v : Int32) : (cw cI cJ a S).set 0 (a 0, .inr (2, ([.ref (a 1), .ref (a 2), .int S.stop, .int S.faults, .int S.latest] : List Value).set 2 (.int v))) = cw cI cJ a (S.set_stop v) := rfl
theorem cw_set_faults (cI cJ : ClassId) (a : Nat → Nat) (S : KS) (v : Int32) : (cw cI cJ a S).set 0 (a 0, .inr (2, ([.ref (a 1), .ref (a 2), .int S.stop, .int S.faults, .int S.latest] : List Value).set 3 (.int v))) = cw cI cJ a (S.set_faults v) := rfl
theorem cw_set_latest (cI cJ : ClassId) (a : Nat → Nat) (S : KS) (v : Int32) : (cw cI cJ a S).set 0 (a 0, .inr (2, ([.ref (a 1), .ref (a 2), .int S.stop, .int S.faults, .int S.latest] : List Value).set 4 (.int v))) = cw cI cJ a (S.set_latest v) := rfl
theorem cw_set_made (cI cJ : ClassId) (a : Nat → Nat) (S : KS) (v : Int32) : (cw cI cJ a S).set 1 (a 1, .inr (1, ([.ref (a 3), .ref (a 4), .ref (a 5), .ref (a 6), .int S.made] : List Value).set 4 (.int v))) = cw cI cJ a (S.set_made v) := rfl
theorem cw_set_forms (cI cJ : ClassId) (a : Nat → Nat) (S : KS) (v : (Nat → Int32)) : (cw cI cJ a S).set 3 (a 3, .inl (cI, 60, .inl v)) = cw cI cJ a (S.set_forms v) := rfl
theorem cw_set_lens (cI cJ : ClassId) (a : Nat → Nat) (S : KS) (v : (Nat → Int32)) : (cw cI cJ a S).set 4 (a 4, .inl (cI, 60, .inl v)) = cw cI cJ a (S.set_lens v) := rfl
theorem cw_set_levels (cI cJ : ClassId) (a : Nat → Nat) (S : KS) (v : (Nat → Int32)) : (cw cI cJ a S).set 5 (a 5, .inl (cI, 60, .inl v)) = cw cI cJ a (S.set_levels v) := rfl
theorem cw_set_cells (cI cJ : ClassId) (a : Nat → Nat) (S : KS) (v : (Nat → Int64)) : (cw cI cJ a S).set 6 (a 6, .inl (cJ, 480, .inr (.inl v))) = cw cI cJ a (S.set_cells v) := rfl
theorem cw_set_plen (cI cJ : ClassId) (a : Nat → Nat) (S : KS) (v : (Nat → Int32)) : (cw cI cJ a S).set 7 (a 7, .inl (cI, 6, .inl v)) = cw cI cJ a (S.set_plen v) := rfl
theorem cw_set_pact (cI cJ : ClassId) (a : Nat → Nat) (S : KS) (v : (Nat → Int32)) : (cw cI cJ a S).set 8 (a 8, .inl (cI, 72, .inl v)) = cw cI cJ a (S.set_pact v) := rfl
theorem cw_set_py (cI cJ : ClassId) (a : Nat → Nat) (S : KS) (v : (Nat → Int32)) : (cw cI cJ a S).set 9 (a 9, .inl (cI, 72, .inl v)) = cw cI cJ a (S.set_py v) := rfl
theorem cw_set_pn (cI cJ : ClassId) (a : Nat → Nat) (S : KS) (v : (Nat → Int32)) : (cw cI cJ a S).set 10 (a 10, .inl (cI, 72, .inl v)) = cw cI cJ a (S.set_pn v) := rfl
def kA (a : Nat → Nat) (q : Nat) : Prop := ∃ i, i < 11 ∧ q = a i
theorem cw_at {cI cJ : ClassId} {a : Nat → Nat} {S : KS} {k : Nat} {q : Nat × va_E} (h : (cw cI cJ a S)[k]? = some q) : k < 11 ∧ q.1 = a k := by
  match k, h with
  | 0, h => exact ⟨by decide, by cases h; rfl⟩
  | 1, h => exact ⟨by decide, by cases h; rfl⟩
  | 2, h => exact ⟨by decide, by cases h; rfl⟩
  | 3, h => exact ⟨by decide, by cases h; rfl⟩
  | 4, h => exact ⟨by decide, by cases h; rfl⟩
  | 5, h => exact ⟨by decide, by cases h; rfl⟩
  | 6, h => exact ⟨by decide, by cases h; rfl⟩
  | 7, h => exact ⟨by decide, by cases h; rfl⟩
  | 8, h => exact ⟨by decide, by cases h; rfl⟩
  | 9, h => exact ⟨by decide, by cases h; rfl⟩
  | 10, h => exact ⟨by decide, by cases h; rfl⟩
  | k + 11, h => simp [cw] at h
theorem cw_D {cI cJ : ClassId} {a : Nat → Nat} {S : KS} (hd : ∀ i j, i < 11 → j < 11 → a i = a j → i = j) : va_D (kA a) (cw cI cJ a S) := ⟨fun i j p q hp hq h => hd i j (cw_at hp).1 (cw_at hq).1 (by rw [← (cw_at hp).2, ← (cw_at hq).2]; exact h), fun k q h => ⟨k, (cw_at h).1, (cw_at h).2⟩⟩
abbrev cw_tys (cI cJ : ClassId) : TyL := [(cI, .int), (cJ, .long)]
def MS : Type := Int32 × Int32 × Int32 × Int32 × (Nat → Int32) × (Nat → Int32) × (Nat → Int32) × (Nat → Int64) × (Nat → Int32) × (Nat → Int32) × (Nat → Int32) × (Nat → Int32) × (Nat → Int32)
def MS.vals (S : MS) : Int32 := S.1
def MS.faults (S : MS) : Int32 := S.2.1
def MS.latest (S : MS) : Int32 := S.2.2.1
def MS.stop (S : MS) : Int32 := S.2.2.2.1
def MS.forms (S : MS) : Nat → Int32 := S.2.2.2.2.1
def MS.sizes (S : MS) : Nat → Int32 := S.2.2.2.2.2.1
def MS.levels (S : MS) : Nat → Int32 := S.2.2.2.2.2.2.1
def MS.nums (S : MS) : Nat → Int64 := S.2.2.2.2.2.2.2.1
def MS.lies (S : MS) : Nat → Int32 := S.2.2.2.2.2.2.2.2.1
def MS.steps (S : MS) : Nat → Int32 := S.2.2.2.2.2.2.2.2.2.1
def MS.sact (S : MS) : Nat → Int32 := S.2.2.2.2.2.2.2.2.2.2.1
def MS.soth (S : MS) : Nat → Int32 := S.2.2.2.2.2.2.2.2.2.2.2.1
def MS.snum (S : MS) : Nat → Int32 := S.2.2.2.2.2.2.2.2.2.2.2.2
def mkMS (vals : Int32) (faults : Int32) (latest : Int32) (stop : Int32) (forms : (Nat → Int32)) (sizes : (Nat → Int32)) (levels : (Nat → Int32)) (nums : (Nat → Int64)) (lies : (Nat → Int32)) (steps : (Nat → Int32)) (sact : (Nat → Int32)) (soth : (Nat → Int32)) (snum : (Nat → Int32)) : MS := (vals, faults, latest, stop, forms, sizes, levels, nums, lies, steps, sact, soth, snum)
def MS.set_vals (S : MS) (v : Int32) : MS := mkMS v S.faults S.latest S.stop S.forms S.sizes S.levels S.nums S.lies S.steps S.sact S.soth S.snum
def MS.set_faults (S : MS) (v : Int32) : MS := mkMS S.vals v S.latest S.stop S.forms S.sizes S.levels S.nums S.lies S.steps S.sact S.soth S.snum
def MS.set_latest (S : MS) (v : Int32) : MS := mkMS S.vals S.faults v S.stop S.forms S.sizes S.levels S.nums S.lies S.steps S.sact S.soth S.snum
def MS.set_stop (S : MS) (v : Int32) : MS := mkMS S.vals S.faults S.latest v S.forms S.sizes S.levels S.nums S.lies S.steps S.sact S.soth S.snum
def MS.set_forms (S : MS) (v : (Nat → Int32)) : MS := mkMS S.vals S.faults S.latest S.stop v S.sizes S.levels S.nums S.lies S.steps S.sact S.soth S.snum
def MS.set_sizes (S : MS) (v : (Nat → Int32)) : MS := mkMS S.vals S.faults S.latest S.stop S.forms v S.levels S.nums S.lies S.steps S.sact S.soth S.snum
def MS.set_levels (S : MS) (v : (Nat → Int32)) : MS := mkMS S.vals S.faults S.latest S.stop S.forms S.sizes v S.nums S.lies S.steps S.sact S.soth S.snum
def MS.set_nums (S : MS) (v : (Nat → Int64)) : MS := mkMS S.vals S.faults S.latest S.stop S.forms S.sizes S.levels v S.lies S.steps S.sact S.soth S.snum
def MS.set_lies (S : MS) (v : (Nat → Int32)) : MS := mkMS S.vals S.faults S.latest S.stop S.forms S.sizes S.levels S.nums v S.steps S.sact S.soth S.snum
def MS.set_steps (S : MS) (v : (Nat → Int32)) : MS := mkMS S.vals S.faults S.latest S.stop S.forms S.sizes S.levels S.nums S.lies v S.sact S.soth S.snum
def MS.set_sact (S : MS) (v : (Nat → Int32)) : MS := mkMS S.vals S.faults S.latest S.stop S.forms S.sizes S.levels S.nums S.lies S.steps v S.soth S.snum
def MS.set_soth (S : MS) (v : (Nat → Int32)) : MS := mkMS S.vals S.faults S.latest S.stop S.forms S.sizes S.levels S.nums S.lies S.steps S.sact v S.snum
def MS.set_snum (S : MS) (v : (Nat → Int32)) : MS := mkMS S.vals S.faults S.latest S.stop S.forms S.sizes S.levels S.nums S.lies S.steps S.sact S.soth v
theorem MS.vals_set_vals (S : MS) (v : Int32) : (S.set_vals v).vals = v := rfl
theorem MS.faults_set_vals (S : MS) (v : Int32) : (S.set_vals v).faults = S.faults := rfl
theorem MS.latest_set_vals (S : MS) (v : Int32) : (S.set_vals v).latest = S.latest := rfl
theorem MS.stop_set_vals (S : MS) (v : Int32) : (S.set_vals v).stop = S.stop := rfl
theorem MS.forms_set_vals (S : MS) (v : Int32) : (S.set_vals v).forms = S.forms := rfl
theorem MS.sizes_set_vals (S : MS) (v : Int32) : (S.set_vals v).sizes = S.sizes := rfl
theorem MS.levels_set_vals (S : MS) (v : Int32) : (S.set_vals v).levels = S.levels := rfl
theorem MS.nums_set_vals (S : MS) (v : Int32) : (S.set_vals v).nums = S.nums := rfl
theorem MS.lies_set_vals (S : MS) (v : Int32) : (S.set_vals v).lies = S.lies := rfl
theorem MS.steps_set_vals (S : MS) (v : Int32) : (S.set_vals v).steps = S.steps := rfl
theorem MS.sact_set_vals (S : MS) (v : Int32) : (S.set_vals v).sact = S.sact := rfl
theorem MS.soth_set_vals (S : MS) (v : Int32) : (S.set_vals v).soth = S.soth := rfl
theorem MS.snum_set_vals (S : MS) (v : Int32) : (S.set_vals v).snum = S.snum := rfl
theorem MS.vals_set_faults (S : MS) (v : Int32) : (S.set_faults v).vals = S.vals := rfl
theorem MS.faults_set_faults (S : MS) (v : Int32) : (S.set_faults v).faults = v := rfl
theorem MS.latest_set_faults (S : MS) (v : Int32) : (S.set_faults v).latest = S.latest := rfl
theorem MS.stop_set_faults (S : MS) (v : Int32) : (S.set_faults v).stop = S.stop := rfl
theorem MS.forms_set_faults (S : MS) (v : Int32) : (S.set_faults v).forms = S.forms := rfl
theorem MS.sizes_set_faults (S : MS) (v : Int32) : (S.set_faults v).sizes = S.sizes := rfl
theorem MS.levels_set_faults (S : MS) (v : Int32) : (S.set_faults v).levels = S.levels := rfl
theorem MS.nums_set_faults (S : MS) (v : Int32) : (S.set_faults v).nums = S.nums := rfl
theorem MS.lies_set_faults (S : MS) (v : Int32) : (S.set_faults v).lies = S.lies := rfl
theorem MS.steps_set_faults (S : MS) (v : Int32) : (S.set_faults v).steps = S.steps := rfl
theorem MS.sact_set_faults (S : MS) (v : Int32) : (S.set_faults v).sact = S.sact := rfl
theorem MS.soth_set_faults (S : MS) (v : Int32) : (S.set_faults v).soth = S.soth := rfl
theorem MS.snum_set_faults (S : MS) (v : Int32) : (S.set_faults v).snum = S.snum := rfl
theorem MS.vals_set_latest (S : MS) (v : Int32) : (S.set_latest v).vals = S.vals := rfl
theorem MS.faults_set_latest (S : MS) (v : Int32) : (S.set_latest v).faults = S.faults := rfl
theorem MS.latest_set_latest (S : MS) (v : Int32) : (S.set_latest v).latest = v := rfl
theorem MS.stop_set_latest (S : MS) (v : Int32) : (S.set_latest v).stop = S.stop := rfl
theorem MS.forms_set_latest (S : MS) (v : Int32) : (S.set_latest v).forms = S.forms := rfl
theorem MS.sizes_set_latest (S : MS) (v : Int32) : (S.set_latest v).sizes = S.sizes := rfl
theorem MS.levels_set_latest (S : MS) (v : Int32) : (S.set_latest v).levels = S.levels := rfl
theorem MS.nums_set_latest (S : MS) (v : Int32) : (S.set_latest v).nums = S.nums := rfl
theorem MS.lies_set_latest (S : MS) (v : Int32) : (S.set_latest v).lies = S.lies := rfl
theorem MS.steps_set_latest (S : MS) (v : Int32) : (S.set_latest v).steps = S.steps := rfl
theorem MS.sact_set_latest (S : MS) (v : Int32) : (S.set_latest v).sact = S.sact := rfl
theorem MS.soth_set_latest (S : MS) (v : Int32) : (S.set_latest v).soth = S.soth := rfl
theorem MS.snum_set_latest (S : MS) (v : Int32) : (S.set_latest v).snum = S.snum := rfl
theorem MS.vals_set_stop (S : MS) (v : Int32) : (S.set_stop v).vals = S.vals := rfl
theorem MS.faults_set_stop (S : MS) (v : Int32) : (S.set_stop v).faults = S.faults := rfl
theorem MS.latest_set_stop (S : MS) (v : Int32) : (S.set_stop v).latest = S.latest := rfl
theorem MS.stop_set_stop (S : MS) (v : Int32) : (S.set_stop v).stop = v := rfl
theorem MS.forms_set_stop (S : MS) (v : Int32) : (S.set_stop v).forms = S.forms := rfl
theorem MS.sizes_set_stop (S : MS) (v : Int32) : (S.set_stop v).sizes = S.sizes := rfl
theorem MS.levels_set_stop (S : MS) (v : Int32) : (S.set_stop v).levels = S.levels := rfl
theorem MS.nums_set_stop (S : MS) (v : Int32) : (S.set_stop v).nums = S.nums := rfl
theorem MS.lies_set_stop (S : MS) (v : Int32) : (S.set_stop v).lies = S.lies := rfl
theorem MS.steps_set_stop (S : MS) (v : Int32) : (S.set_stop v).steps = S.steps := rfl
theorem MS.sact_set_stop (S : MS) (v : Int32) : (S.set_stop v).sact = S.sact := rfl
theorem MS.soth_set_stop (S : MS) (v : Int32) : (S.set_stop v).soth = S.soth := rfl
theorem MS.snum_set_stop (S : MS) (v : Int32) : (S.set_stop v).snum = S.snum := rfl
theorem MS.vals_set_forms (S : MS) (v : (Nat → Int32)) : (S.set_forms v).vals = S.vals := rfl
theorem MS.faults_set_forms (S : MS) (v : (Nat → Int32)) : (S.set_forms v).faults = S.faults := rfl
theorem MS.latest_set_forms (S : MS) (v : (Nat → Int32)) : (S.set_forms v).latest = S.latest := rfl
theorem MS.stop_set_forms (S : MS) (v : (Nat → Int32)) : (S.set_forms v).stop = S.stop := rfl
theorem MS.forms_set_forms (S : MS) (v : (Nat → Int32)) : (S.set_forms v).forms = v := rfl
theorem MS.sizes_set_forms (S : MS) (v : (Nat → Int32)) : (S.set_forms v).sizes = S.sizes := rfl
theorem MS.levels_set_forms (S : MS) (v : (Nat → Int32)) : (S.set_forms v).levels = S.levels := rfl
theorem MS.nums_set_forms (S : MS) (v : (Nat → Int32)) : (S.set_forms v).nums = S.nums := rfl
theorem MS.lies_set_forms (S : MS) (v : (Nat → Int32)) : (S.set_forms v).lies = S.lies := rfl
theorem MS.steps_set_forms (S : MS) (v : (Nat → Int32)) : (S.set_forms v).steps = S.steps := rfl
theorem MS.sact_set_forms (S : MS) (v : (Nat → Int32)) : (S.set_forms v).sact = S.sact := rfl
theorem MS.soth_set_forms (S : MS) (v : (Nat → Int32)) : (S.set_forms v).soth = S.soth := rfl
theorem MS.snum_set_forms (S : MS) (v : (Nat → Int32)) : (S.set_forms v).snum = S.snum := rfl
theorem MS.vals_set_sizes (S : MS) (v : (Nat → Int32)) : (S.set_sizes v).vals = S.vals := rfl
theorem MS.faults_set_sizes (S : MS) (v : (Nat → Int32)) : (S.set_sizes v).faults = S.faults := rfl
theorem MS.latest_set_sizes (S : MS) (v : (Nat → Int32)) : (S.set_sizes v).latest = S.latest := rfl
theorem MS.stop_set_sizes (S : MS) (v : (Nat → Int32)) : (S.set_sizes v).stop = S.stop := rfl
theorem MS.forms_set_sizes (S : MS) (v : (Nat → Int32)) : (S.set_sizes v).forms = S.forms := rfl
theorem MS.sizes_set_sizes (S : MS) (v : (Nat → Int32)) : (S.set_sizes v).sizes = v := rfl
theorem MS.levels_set_sizes (S : MS) (v : (Nat → Int32)) : (S.set_sizes v).levels = S.levels := rfl
theorem MS.nums_set_sizes (S : MS) (v : (Nat → Int32)) : (S.set_sizes v).nums = S.nums := rfl
theorem MS.lies_set_sizes (S : MS) (v : (Nat → Int32)) : (S.set_sizes v).lies = S.lies := rfl
theorem MS.steps_set_sizes (S : MS) (v : (Nat → Int32)) : (S.set_sizes v).steps = S.steps := rfl
theorem MS.sact_set_sizes (S : MS) (v : (Nat → Int32)) : (S.set_sizes v).sact = S.sact := rfl
theorem MS.soth_set_sizes (S : MS) (v : (Nat → Int32)) : (S.set_sizes v).soth = S.soth := rfl
theorem MS.snum_set_sizes (S : MS) (v : (Nat → Int32)) : (S.set_sizes v).snum = S.snum := rfl
theorem MS.vals_set_levels (S : MS) (v : (Nat → Int32)) : (S.set_levels v).vals = S.vals := rfl
theorem MS.faults_set_levels (S : MS) (v : (Nat → Int32)) : (S.set_levels v).faults = S.faults := rfl
theorem MS.latest_set_levels (S : MS) (v : (Nat → Int32)) : (S.set_levels v).latest = S.latest := rfl
theorem MS.stop_set_levels (S : MS) (v : (Nat → Int32)) : (S.set_levels v).stop = S.stop := rfl
theorem MS.forms_set_levels (S : MS) (v : (Nat → Int32)) : (S.set_levels v).forms = S.forms := rfl
theorem MS.sizes_set_levels (S : MS) (v : (Nat → Int32)) : (S.set_levels v).sizes = S.sizes := rfl
theorem MS.levels_set_levels (S : MS) (v : (Nat → Int32)) : (S.set_levels v).levels = v := rfl
theorem MS.nums_set_levels (S : MS) (v : (Nat → Int32)) : (S.set_levels v).nums = S.nums := rfl
theorem MS.lies_set_levels (S : MS) (v : (Nat → Int32)) : (S.set_levels v).lies = S.lies := rfl
theorem MS.steps_set_levels (S : MS) (v : (Nat → Int32)) : (S.set_levels v).steps = S.steps := rfl
theorem MS.sact_set_levels (S : MS) (v : (Nat → Int32)) : (S.set_levels v).sact = S.sact := rfl
theorem MS.soth_set_levels (S : MS) (v : (Nat → Int32)) : (S.set_levels v).soth = S.soth := rfl
theorem MS.snum_set_levels (S : MS) (v : (Nat → Int32)) : (S.set_levels v).snum = S.snum := rfl
theorem MS.vals_set_nums (S : MS) (v : (Nat → Int64)) : (S.set_nums v).vals = S.vals := rfl
theorem MS.faults_set_nums (S : MS) (v : (Nat → Int64)) : (S.set_nums v).faults = S.faults := rfl
theorem MS.latest_set_nums (S : MS) (v : (Nat → Int64)) : (S.set_nums v).latest = S.latest := rfl
theorem MS.stop_set_nums (S : MS) (v : (Nat → Int64)) : (S.set_nums v).stop = S.stop := rfl
theorem MS.forms_set_nums (S : MS) (v : (Nat → Int64)) : (S.set_nums v).forms = S.forms := rfl
theorem MS.sizes_set_nums (S : MS) (v : (Nat → Int64)) : (S.set_nums v).sizes = S.sizes := rfl
theorem MS.levels_set_nums (S : MS) (v : (Nat → Int64)) : (S.set_nums v).levels = S.levels := rfl
theorem MS.nums_set_nums (S : MS) (v : (Nat → Int64)) : (S.set_nums v).nums = v := rfl
theorem MS.lies_set_nums (S : MS) (v : (Nat → Int64)) : (S.set_nums v).lies = S.lies := rfl
theorem MS.steps_set_nums (S : MS) (v : (Nat → Int64)) : (S.set_nums v).steps = S.steps := rfl
theorem MS.sact_set_nums (S : MS) (v : (Nat → Int64)) : (S.set_nums v).sact = S.sact := rfl
theorem MS.soth_set_nums (S : MS) (v : (Nat → Int64)) : (S.set_nums v).soth = S.soth := rfl
theorem MS.snum_set_nums (S : MS) (v : (Nat → Int64)) : (S.set_nums v).snum = S.snum := rfl
theorem MS.vals_set_lies (S : MS) (v : (Nat → Int32)) : (S.set_lies v).vals = S.vals := rfl
theorem MS.faults_set_lies (S : MS) (v : (Nat → Int32)) : (S.set_lies v).faults = S.faults := rfl
theorem MS.latest_set_lies (S : MS) (v : (Nat → Int32)) : (S.set_lies v).latest = S.latest := rfl
theorem MS.stop_set_lies (S : MS) (v : (Nat → Int32)) : (S.set_lies v).stop = S.stop := rfl
theorem MS.forms_set_lies (S : MS) (v : (Nat → Int32)) : (S.set_lies v).forms = S.forms := rfl
theorem MS.sizes_set_lies (S : MS) (v : (Nat → Int32)) : (S.set_lies v).sizes = S.sizes := rfl
theorem MS.levels_set_lies (S : MS) (v : (Nat → Int32)) : (S.set_lies v).levels = S.levels := rfl
theorem MS.nums_set_lies (S : MS) (v : (Nat → Int32)) : (S.set_lies v).nums = S.nums := rfl
theorem MS.lies_set_lies (S : MS) (v : (Nat → Int32)) : (S.set_lies v).lies = v := rfl
theorem MS.steps_set_lies (S : MS) (v : (Nat → Int32)) : (S.set_lies v).steps = S.steps := rfl
theorem MS.sact_set_lies (S : MS) (v : (Nat → Int32)) : (S.set_lies v).sact = S.sact := rfl
theorem MS.soth_set_lies (S : MS) (v : (Nat → Int32)) : (S.set_lies v).soth = S.soth := rfl
theorem MS.snum_set_lies (S : MS) (v : (Nat → Int32)) : (S.set_lies v).snum = S.snum := rfl
theorem MS.vals_set_steps (S : MS) (v : (Nat → Int32)) : (S.set_steps v).vals = S.vals := rfl
theorem MS.faults_set_steps (S : MS) (v : (Nat → Int32)) : (S.set_steps v).faults = S.faults := rfl
theorem MS.latest_set_steps (S : MS) (v : (Nat → Int32)) : (S.set_steps v).latest = S.latest := rfl
theorem MS.stop_set_steps (S : MS) (v : (Nat → Int32)) : (S.set_steps v).stop = S.stop := rfl
theorem MS.forms_set_steps (S : MS) (v : (Nat → Int32)) : (S.set_steps v).forms = S.forms := rfl
theorem MS.sizes_set_steps (S : MS) (v : (Nat → Int32)) : (S.set_steps v).sizes = S.sizes := rfl
theorem MS.levels_set_steps (S : MS) (v : (Nat → Int32)) : (S.set_steps v).levels = S.levels := rfl
theorem MS.nums_set_steps (S : MS) (v : (Nat → Int32)) : (S.set_steps v).nums = S.nums := rfl
theorem MS.lies_set_steps (S : MS) (v : (Nat → Int32)) : (S.set_steps v).lies = S.lies := rfl
theorem MS.steps_set_steps (S : MS) (v : (Nat → Int32)) : (S.set_steps v).steps = v := rfl
theorem MS.sact_set_steps (S : MS) (v : (Nat → Int32)) : (S.set_steps v).sact = S.sact := rfl
theorem MS.soth_set_steps (S : MS) (v : (Nat → Int32)) : (S.set_steps v).soth = S.soth := rfl
theorem MS.snum_set_steps (S : MS) (v : (Nat → Int32)) : (S.set_steps v).snum = S.snum := rfl
theorem MS.vals_set_sact (S : MS) (v : (Nat → Int32)) : (S.set_sact v).vals = S.vals := rfl
theorem MS.faults_set_sact (S : MS) (v : (Nat → Int32)) : (S.set_sact v).faults = S.faults := rfl
theorem MS.latest_set_sact (S : MS) (v : (Nat → Int32)) : (S.set_sact v).latest = S.latest := rfl
theorem MS.stop_set_sact (S : MS) (v : (Nat → Int32)) : (S.set_sact v).stop = S.stop := rfl
theorem MS.forms_set_sact (S : MS) (v : (Nat → Int32)) : (S.set_sact v).forms = S.forms := rfl
theorem MS.sizes_set_sact (S : MS) (v : (Nat → Int32)) : (S.set_sact v).sizes = S.sizes := rfl
theorem MS.levels_set_sact (S : MS) (v : (Nat → Int32)) : (S.set_sact v).levels = S.levels := rfl
theorem MS.nums_set_sact (S : MS) (v : (Nat → Int32)) : (S.set_sact v).nums = S.nums := rfl
theorem MS.lies_set_sact (S : MS) (v : (Nat → Int32)) : (S.set_sact v).lies = S.lies := rfl
theorem MS.steps_set_sact (S : MS) (v : (Nat → Int32)) : (S.set_sact v).steps = S.steps := rfl
theorem MS.sact_set_sact (S : MS) (v : (Nat → Int32)) : (S.set_sact v).sact = v := rfl
theorem MS.soth_set_sact (S : MS) (v : (Nat → Int32)) : (S.set_sact v).soth = S.soth := rfl
theorem MS.snum_set_sact (S : MS) (v : (Nat → Int32)) : (S.set_sact v).snum = S.snum := rfl
theorem MS.vals_set_soth (S : MS) (v : (Nat → Int32)) : (S.set_soth v).vals = S.vals := rfl
theorem MS.faults_set_soth (S : MS) (v : (Nat → Int32)) : (S.set_soth v).faults = S.faults := rfl
theorem MS.latest_set_soth (S : MS) (v : (Nat → Int32)) : (S.set_soth v).latest = S.latest := rfl
theorem MS.stop_set_soth (S : MS) (v : (Nat → Int32)) : (S.set_soth v).stop = S.stop := rfl
theorem MS.forms_set_soth (S : MS) (v : (Nat → Int32)) : (S.set_soth v).forms = S.forms := rfl
theorem MS.sizes_set_soth (S : MS) (v : (Nat → Int32)) : (S.set_soth v).sizes = S.sizes := rfl
theorem MS.levels_set_soth (S : MS) (v : (Nat → Int32)) : (S.set_soth v).levels = S.levels := rfl
theorem MS.nums_set_soth (S : MS) (v : (Nat → Int32)) : (S.set_soth v).nums = S.nums := rfl
theorem MS.lies_set_soth (S : MS) (v : (Nat → Int32)) : (S.set_soth v).lies = S.lies := rfl
theorem MS.steps_set_soth (S : MS) (v : (Nat → Int32)) : (S.set_soth v).steps = S.steps := rfl
theorem MS.sact_set_soth (S : MS) (v : (Nat → Int32)) : (S.set_soth v).sact = S.sact := rfl
theorem MS.soth_set_soth (S : MS) (v : (Nat → Int32)) : (S.set_soth v).soth = v := rfl
theorem MS.snum_set_soth (S : MS) (v : (Nat → Int32)) : (S.set_soth v).snum = S.snum := rfl
theorem MS.vals_set_snum (S : MS) (v : (Nat → Int32)) : (S.set_snum v).vals = S.vals := rfl
theorem MS.faults_set_snum (S : MS) (v : (Nat → Int32)) : (S.set_snum v).faults = S.faults := rfl
theorem MS.latest_set_snum (S : MS) (v : (Nat → Int32)) : (S.set_snum v).latest = S.latest := rfl
theorem MS.stop_set_snum (S : MS) (v : (Nat → Int32)) : (S.set_snum v).stop = S.stop := rfl
theorem MS.forms_set_snum (S : MS) (v : (Nat → Int32)) : (S.set_snum v).forms = S.forms := rfl
theorem MS.sizes_set_snum (S : MS) (v : (Nat → Int32)) : (S.set_snum v).sizes = S.sizes := rfl
theorem MS.levels_set_snum (S : MS) (v : (Nat → Int32)) : (S.set_snum v).levels = S.levels := rfl
theorem MS.nums_set_snum (S : MS) (v : (Nat → Int32)) : (S.set_snum v).nums = S.nums := rfl
theorem MS.lies_set_snum (S : MS) (v : (Nat → Int32)) : (S.set_snum v).lies = S.lies := rfl
theorem MS.steps_set_snum (S : MS) (v : (Nat → Int32)) : (S.set_snum v).steps = S.steps := rfl
theorem MS.sact_set_snum (S : MS) (v : (Nat → Int32)) : (S.set_snum v).sact = S.sact := rfl
theorem MS.soth_set_snum (S : MS) (v : (Nat → Int32)) : (S.set_snum v).soth = S.soth := rfl
theorem MS.snum_set_snum (S : MS) (v : (Nat → Int32)) : (S.set_snum v).snum = v := rfl
def mw (cI cJ : ClassId) (a : Nat → Nat) (S : MS) : va_W := [(a 0, .inr (3, [.int S.vals, .ref (a 1), .ref (a 2), .ref (a 3), .ref (a 4), .ref (a 5), .ref (a 6), .ref (a 7), .ref (a 8), .ref (a 9), .int S.faults, .int S.latest, .int S.stop])), (a 1, .inl (cI, 60, .inl S.forms)), (a 2, .inl (cI, 60, .inl S.sizes)), (a 3, .inl (cI, 60, .inl S.levels)), (a 4, .inl (cJ, 480, .inr (.inl S.nums))), (a 5, .inl (cI, 480, .inl S.lies)), (a 6, .inl (cI, 6, .inl S.steps)), (a 7, .inl (cI, 72, .inl S.sact)), (a 8, .inl (cI, 72, .inl S.soth)), (a 9, .inl (cI, 72, .inl S.snum))]
theorem mw_set_vals (cI cJ : ClassId) (a : Nat → Nat) (S : MS) (v : Int32) : (mw cI cJ a S).set 0 (a 0, .inr (3, ([.int S.vals, .ref (a 1), .ref (a 2), .ref (a 3), .ref (a 4), .ref (a 5), .ref (a 6), .ref (a 7), .ref (a 8), .ref (a 9), .int S.faults, .int S.latest, .int S.stop] : List Value).set 0 (.int v))) = mw cI cJ a (S.set_vals v) := rfl
theorem mw_set_faults (cI cJ : ClassId) (a : Nat → Nat) (S : MS) (v : Int32) : (mw cI cJ a S).set 0 (a 0, .inr (3, ([.int S.vals, .ref (a 1), .ref (a 2), .ref (a 3), .ref (a 4), .ref (a 5), .ref (a 6), .ref (a 7), .ref (a 8), .ref (a 9), .int S.faults, .int S.latest, .int S.stop] : List Value).set 10 (.int v))) = mw cI cJ a (S.set_faults v) := rfl
theorem mw_set_latest (cI cJ : ClassId) (a : Nat → Nat) (S : MS) (v : Int32) : (mw cI cJ a S).set 0 (a 0, .inr (3, ([.int S.vals, .ref (a 1), .ref (a 2), .ref (a 3), .ref (a 4), .ref (a 5), .ref (a 6), .ref (a 7), .ref (a 8), .ref (a 9), .int S.faults, .int S.latest, .int S.stop] : List Value).set 11 (.int v))) = mw cI cJ a (S.set_latest v) := rfl
theorem mw_set_stop (cI cJ : ClassId) (a : Nat → Nat) (S : MS) (v : Int32) : (mw cI cJ a S).set 0 (a 0, .inr (3, ([.int S.vals, .ref (a 1), .ref (a 2), .ref (a 3), .ref (a 4), .ref (a 5), .ref (a 6), .ref (a 7), .ref (a 8), .ref (a 9), .int S.faults, .int S.latest, .int S.stop] : List Value).set 12 (.int v))) = mw cI cJ a (S.set_stop v) := rfl
theorem mw_set_forms (cI cJ : ClassId) (a : Nat → Nat) (S : MS) (v : (Nat → Int32)) : (mw cI cJ a S).set 1 (a 1, .inl (cI, 60, .inl v)) = mw cI cJ a (S.set_forms v) := rfl
theorem mw_set_sizes (cI cJ : ClassId) (a : Nat → Nat) (S : MS) (v : (Nat → Int32)) : (mw cI cJ a S).set 2 (a 2, .inl (cI, 60, .inl v)) = mw cI cJ a (S.set_sizes v) := rfl
theorem mw_set_levels (cI cJ : ClassId) (a : Nat → Nat) (S : MS) (v : (Nat → Int32)) : (mw cI cJ a S).set 3 (a 3, .inl (cI, 60, .inl v)) = mw cI cJ a (S.set_levels v) := rfl
theorem mw_set_nums (cI cJ : ClassId) (a : Nat → Nat) (S : MS) (v : (Nat → Int64)) : (mw cI cJ a S).set 4 (a 4, .inl (cJ, 480, .inr (.inl v))) = mw cI cJ a (S.set_nums v) := rfl
theorem mw_set_lies (cI cJ : ClassId) (a : Nat → Nat) (S : MS) (v : (Nat → Int32)) : (mw cI cJ a S).set 5 (a 5, .inl (cI, 480, .inl v)) = mw cI cJ a (S.set_lies v) := rfl
theorem mw_set_steps (cI cJ : ClassId) (a : Nat → Nat) (S : MS) (v : (Nat → Int32)) : (mw cI cJ a S).set 6 (a 6, .inl (cI, 6, .inl v)) = mw cI cJ a (S.set_steps v) := rfl
theorem mw_set_sact (cI cJ : ClassId) (a : Nat → Nat) (S : MS) (v : (Nat → Int32)) : (mw cI cJ a S).set 7 (a 7, .inl (cI, 72, .inl v)) = mw cI cJ a (S.set_sact v) := rfl
theorem mw_set_soth (cI cJ : ClassId) (a : Nat → Nat) (S : MS) (v : (Nat → Int32)) : (mw cI cJ a S).set 8 (a 8, .inl (cI, 72, .inl v)) = mw cI cJ a (S.set_soth v) := rfl
theorem mw_set_snum (cI cJ : ClassId) (a : Nat → Nat) (S : MS) (v : (Nat → Int32)) : (mw cI cJ a S).set 9 (a 9, .inl (cI, 72, .inl v)) = mw cI cJ a (S.set_snum v) := rfl
def mA (a : Nat → Nat) (q : Nat) : Prop := ∃ i, i < 10 ∧ q = a i
theorem mw_at {cI cJ : ClassId} {a : Nat → Nat} {S : MS} {k : Nat} {q : Nat × va_E} (h : (mw cI cJ a S)[k]? = some q) : k < 10 ∧ q.1 = a k := by
  match k, h with
  | 0, h => exact ⟨by decide, by cases h; rfl⟩
  | 1, h => exact ⟨by decide, by cases h; rfl⟩
  | 2, h => exact ⟨by decide, by cases h; rfl⟩
  | 3, h => exact ⟨by decide, by cases h; rfl⟩
  | 4, h => exact ⟨by decide, by cases h; rfl⟩
  | 5, h => exact ⟨by decide, by cases h; rfl⟩
  | 6, h => exact ⟨by decide, by cases h; rfl⟩
  | 7, h => exact ⟨by decide, by cases h; rfl⟩
  | 8, h => exact ⟨by decide, by cases h; rfl⟩
  | 9, h => exact ⟨by decide, by cases h; rfl⟩
  | k + 10, h => simp [mw] at h
theorem mw_D {cI cJ : ClassId} {a : Nat → Nat} {S : MS} (hd : ∀ i j, i < 10 → j < 10 → a i = a j → i = j) : va_D (mA a) (mw cI cJ a S) := ⟨fun i j p q hp hq h => hd i j (mw_at hp).1 (mw_at hq).1 (by rw [← (mw_at hp).2, ← (mw_at hq).2]; exact h), fun k q h => ⟨k, (mw_at h).1, (mw_at h).2⟩⟩
abbrev mw_tys (cI cJ : ClassId) : TyL := [(cI, .int), (cJ, .long)]
/-- a number of a value, or none -/
def NV (x : Int32) : Prop := -1 ≤ x.toInt ∧ x.toInt < 60
def KInv (S : KS) : Prop := (0 ≤ S.made.toInt ∧ S.made.toInt ≤ 60) ∧ (∀ i, 0 ≤ (S.lens i).toInt ∧ (S.lens i).toInt ≤ 8) ∧ (∀ i, 0 ≤ (S.plen i).toInt ∧ (S.plen i).toInt ≤ 12)
def MInv (S : MS) : Prop := (0 ≤ S.vals.toInt ∧ S.vals.toInt ≤ 60) ∧ (∀ i, 0 ≤ (S.sizes i).toInt ∧ (S.sizes i).toInt ≤ 8) ∧ (∀ i, NV (S.lies i)) ∧ (∀ i, 0 ≤ (S.steps i).toInt ∧ (S.steps i).toInt ≤ 12) ∧ (∀ i, -2 ≤ (S.soth i).toInt ∧ (S.soth i).toInt < 60) ∧ (∀ i, 0 ≤ (S.sact i).toInt ∧ (S.sact i).toInt ≤ 12)
theorem KInv_set_stop {S : KS} {v : Int32} (h : KInv S) : KInv (S.set_stop v) := h
theorem KInv_set_faults {S : KS} {v : Int32} (h : KInv S) : KInv (S.set_faults v) := h
theorem KInv_set_latest {S : KS} {v : Int32} (h : KInv S) : KInv (S.set_latest v) := h
theorem KInv_set_forms {S : KS} {v : (Nat → Int32)} (h : KInv S) : KInv (S.set_forms v) := h
theorem KInv_set_levels {S : KS} {v : (Nat → Int32)} (h : KInv S) : KInv (S.set_levels v) := h
theorem KInv_set_cells {S : KS} {v : (Nat → Int64)} (h : KInv S) : KInv (S.set_cells v) := h
theorem KInv_set_pact {S : KS} {v : (Nat → Int32)} (h : KInv S) : KInv (S.set_pact v) := h
theorem KInv_set_py {S : KS} {v : (Nat → Int32)} (h : KInv S) : KInv (S.set_py v) := h
theorem KInv_set_pn {S : KS} {v : (Nat → Int32)} (h : KInv S) : KInv (S.set_pn v) := h
theorem MInv_set_faults {S : MS} {v : Int32} (h : MInv S) : MInv (S.set_faults v) := h
theorem MInv_set_latest {S : MS} {v : Int32} (h : MInv S) : MInv (S.set_latest v) := h
theorem MInv_set_stop {S : MS} {v : Int32} (h : MInv S) : MInv (S.set_stop v) := h
theorem MInv_set_forms {S : MS} {v : (Nat → Int32)} (h : MInv S) : MInv (S.set_forms v) := h
theorem MInv_set_levels {S : MS} {v : (Nat → Int32)} (h : MInv S) : MInv (S.set_levels v) := h
theorem MInv_set_nums {S : MS} {v : (Nat → Int64)} (h : MInv S) : MInv (S.set_nums v) := h
theorem MInv_set_snum {S : MS} {v : (Nat → Int32)} (h : MInv S) : MInv (S.set_snum v) := h
