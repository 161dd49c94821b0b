def Pstproduct (I : SS → SS → Prop) : Prop := ∀ x0 : Int32, ∀ x1 : Int32, ∀ x2 : Int32, ∀ σ τ : SS, I σ τ → ∃ (r : Int32) (σ1 τ1 : SS), f_X11_product x0 x1 x2 σ = some (r, σ1) ∧ f_X12_product x0 x1 x2 τ = some (r, τ1) ∧ I σ1 τ1
def Pstblow (I : SS → SS → Prop) : Prop := ∀ σ τ : SS, I σ τ → ∃ (r : Int32) (σ1 τ1 : SS), f_X11_blow  σ = some (r, σ1) ∧ f_X12_blow  τ = some (r, τ1) ∧ I σ1 τ1
def Pstcurved (I : SS → SS → Prop) : Prop := ∀ σ τ : SS, I σ τ → ∃ (r : Int32) (σ1 τ1 : SS), f_X11_curved  σ = some (r, σ1) ∧ f_X12_curved  τ = some (r, τ1) ∧ I σ1 τ1
def Pstcurve (I : SS → SS → Prop) : Prop := ∀ x0 : Int32, ∀ x1 : Int32, ∀ σ τ : SS, I σ τ → ∃ (r : Int32) (σ1 τ1 : SS), f_X11_curve x0 x1 σ = some (r, σ1) ∧ f_X12_curve x0 x1 τ = some (r, τ1) ∧ I σ1 τ1
def Pstconics (I : SS → SS → Prop) : Prop := ∀ σ τ : SS, I σ τ → ∃ (r : Int32) (σ1 τ1 : SS), f_X11_conics  σ = some (r, σ1) ∧ f_X12_conics  τ = some (r, τ1) ∧ I σ1 τ1
def Pstspace (I : SS → SS → Prop) : Prop := ∀ x0 : Int32, ∀ σ τ : SS, I σ τ → ∃ (r : Int32) (σ1 τ1 : SS), f_X11_space x0 σ = some (r, σ1) ∧ f_X12_space x0 τ = some (r, τ1) ∧ I σ1 τ1
def Pstworth (I : SS → SS → Prop) : Prop := ∀ x0 : Int32, ∀ σ τ : SS, I σ τ → ∃ (r : Int64) (σ1 τ1 : SS), f_X11_worth x0 σ = some (r, σ1) ∧ f_X12_worth x0 τ = some (r, τ1) ∧ I σ1 τ1
def Pstterm (I : SS → SS → Prop) : Prop := ∀ x0 : Int32, ∀ σ τ : SS, I σ τ → ∃ (r : Int32) (σ1 τ1 : SS), f_X11_term x0 σ = some (r, σ1) ∧ f_X12_term x0 τ = some (r, τ1) ∧ I σ1 τ1
def Pstset (I : SS → SS → Prop) : Prop := ∀ x0 : Int32, ∀ x1 : Int32, ∀ x2 : Int32, ∀ σ τ : SS, I σ τ → ∃ (r : Int32) (σ1 τ1 : SS), f_X11_set x0 x1 x2 σ = some (r, σ1) ∧ f_X12_set x0 x1 x2 τ = some (r, τ1) ∧ I σ1 τ1
def Psttell (I : SS → SS → Prop) : Prop := ∀ x0 : Int32, ∀ x1 : Int32, ∀ x2 : Int64, ∀ σ τ : SS, I σ τ → ∃ (r : Int32) (σ1 τ1 : SS), f_X11_tell x0 x1 x2 σ = some (r, σ1) ∧ f_X12_tell x0 x1 x2 τ = some (r, τ1) ∧ I σ1 τ1
def Pstof (I : SS → SS → Prop) : Prop := ∀ x0 : Int32, ∀ x1 : Int32, ∀ σ τ : SS, I σ τ → ∃ (r : Int32) (σ1 τ1 : SS), f_X11_of x0 x1 σ = some (r, σ1) ∧ f_X12_of x0 x1 τ = some (r, τ1) ∧ I σ1 τ1
def Pstnumber (I : SS → SS → Prop) : Prop := ∀ x0 : Int32, ∀ x1 : Int32, ∀ σ τ : SS, I σ τ → ∃ (r : Int64) (σ1 τ1 : SS), f_X11_number x0 x1 σ = some (r, σ1) ∧ f_X12_number x0 x1 τ = some (r, τ1) ∧ I σ1 τ1
def Pstdrop (I : SS → SS → Prop) : Prop := ∀ σ τ : SS, I σ τ → ∃ (r : Int32) (σ1 τ1 : SS), f_X11_drop  σ = some (r, σ1) ∧ f_X12_drop  τ = some (r, τ1) ∧ I σ1 τ1
def Pstcanonical (I : SS → SS → Prop) : Prop := ∀ σ τ : SS, I σ τ → ∃ (r : Int32) (σ1 τ1 : SS), f_X11_canonical  σ = some (r, σ1) ∧ f_X12_canonical  τ = some (r, τ1) ∧ I σ1 τ1
def Pstmet (I : SS → SS → Prop) : Prop := ∀ x0 : Int32, ∀ σ τ : SS, I σ τ → ∃ (r : Int64) (σ1 τ1 : SS), f_X11_met x0 σ = some (r, σ1) ∧ f_X12_met x0 τ = some (r, τ1) ∧ I σ1 τ1
def Pstmeets (I : SS → SS → Prop) : Prop := ∀ x0 : Int32, ∀ x1 : Int32, ∀ σ τ : SS, I σ τ → ∃ (r : Int64) (σ1 τ1 : SS), f_X11_meets x0 x1 σ = some (r, σ1) ∧ f_X12_meets x0 x1 τ = some (r, τ1) ∧ I σ1 τ1
def PstmeetsAll (I : SS → SS → Prop) : Prop := ∀ x0 : Int32, ∀ σ τ : SS, I σ τ → ∃ (r : Int64) (σ1 τ1 : SS), f_X11_meetsAll x0 σ = some (r, σ1) ∧ f_X12_meetsAll x0 τ = some (r, τ1) ∧ I σ1 τ1
def Pstself (I : SS → SS → Prop) : Prop := ∀ x0 : Int32, ∀ x1 : Int32, ∀ σ τ : SS, I σ τ → ∃ (r : Int64) (σ1 τ1 : SS), f_X11_self x0 x1 σ = some (r, σ1) ∧ f_X12_self x0 x1 τ = some (r, τ1) ∧ I σ1 τ1
def Pstlike (I : SS → SS → Prop) : Prop := ∀ x0 : Int32, ∀ x1 : Int32, ∀ σ τ : SS, I σ τ → ∃ (r : Int32) (σ1 τ1 : SS), f_X11_like x0 x1 σ = some (r, σ1) ∧ f_X12_like x0 x1 τ = some (r, τ1) ∧ I σ1 τ1
def Pstchern (I : SS → SS → Prop) : Prop := ∀ x0 : Int32, ∀ σ τ : SS, I σ τ → ∃ (r : Int64) (σ1 τ1 : SS), f_X11_chern x0 σ = some (r, σ1) ∧ f_X12_chern x0 τ = some (r, τ1) ∧ I σ1 τ1
def PstcutOut (I : SS → SS → Prop) : Prop := ∀ x0 : Int32, ∀ x1 : Int32, ∀ σ τ : SS, I σ τ → ∃ (r : Int64) (σ1 τ1 : SS), f_X11_cutOut x0 x1 σ = some (r, σ1) ∧ f_X12_cutOut x0 x1 τ = some (r, τ1) ∧ I σ1 τ1
def Pstthrough (I : SS → SS → Prop) : Prop := ∀ x0 : Int32, ∀ x1 : Int32, ∀ x2 : Int32, ∀ σ τ : SS, I σ τ → ∃ (r : Int64) (σ1 τ1 : SS), f_X11_through x0 x1 x2 σ = some (r, σ1) ∧ f_X12_through x0 x1 x2 τ = some (r, τ1) ∧ I σ1 τ1
def Pstfits (I : SS → SS → Prop) : Prop := ∀ x0 : Int32, ∀ x1 : Int32, ∀ x2 : Int64, ∀ x3 : Int32, ∀ σ τ : SS, I σ τ → ∃ (r : Int32) (σ1 τ1 : SS), f_X11_fits x0 x1 x2 x3 σ = some (r, σ1) ∧ f_X12_fits x0 x1 x2 x3 τ = some (r, τ1) ∧ I σ1 τ1
def Pstjudge (I : SS → SS → Prop) : Prop := ∀ x0 : Int32, ∀ σ τ : SS, I σ τ → ∃ (r : Int32) (σ1 τ1 : SS), f_X11_judge x0 σ = some (r, σ1) ∧ f_X12_judge x0 τ = some (r, τ1) ∧ I σ1 τ1
def Pstlots (I : SS → SS → Prop) : Prop := ∀ x0 : Int32, ∀ x1 : Int32, ∀ x2 : Int32, ∀ σ τ : SS, I σ τ → ∃ (r : Int64) (σ1 τ1 : SS), f_X11_lots x0 x1 x2 σ = some (r, σ1) ∧ f_X12_lots x0 x1 x2 τ = some (r, τ1) ∧ I σ1 τ1
def Pstfeed (I : SS → SS → Prop) : Prop := ∀ x0 : Int32, ∀ σ τ : SS, I σ τ → ∃ (r : Int32) (σ1 τ1 : SS), f_X11_feed x0 σ = some (r, σ1) ∧ f_X12_feed x0 τ = some (r, τ1) ∧ I σ1 τ1
def Pstwipe (I : SS → SS → Prop) : Prop := ∀ σ τ : SS, I σ τ → ∃ (r : Int32) (σ1 τ1 : SS), f_X11_wipe  σ = some (r, σ1) ∧ f_X12_wipe  τ = some (r, τ1) ∧ I σ1 τ1
def Pstread (I : SS → SS → Prop) : Prop := ∀ σ τ : SS, I σ τ → ∃ (r : Int32) (σ1 τ1 : SS), f_X11_read  σ = some (r, σ1) ∧ f_X12_read  τ = some (r, τ1) ∧ I σ1 τ1
def Pstacts (I : SS → SS → Prop) : Prop := ∀ σ τ : SS, I σ τ → ∃ (r : Int32) (σ1 τ1 : SS), f_X11_acts  σ = some (r, σ1) ∧ f_X12_acts  τ = some (r, τ1) ∧ I σ1 τ1
def Pstwrite (I : SS → SS → Prop) : Prop := ∀ x0 : Int32, ∀ σ τ : SS, I σ τ → ∃ (r : Int32) (σ1 τ1 : SS), f_X11_write x0 σ = some (r, σ1) ∧ f_X12_write x0 τ = some (r, τ1) ∧ I σ1 τ1
def Pstpaper (I : SS → SS → Prop) : Prop := ∀ x0 : Int32, ∀ σ τ : SS, I σ τ → ∃ (r : Int32) (σ1 τ1 : SS), f_X11_paper x0 σ = some (r, σ1) ∧ f_X12_paper x0 τ = some (r, τ1) ∧ I σ1 τ1
def Pstlist (I : SS → SS → Prop) : Prop := ∀ x0 : Int32, ∀ x1 : Int32, ∀ x2 : Int32, ∀ σ τ : SS, I σ τ → ∃ (r : Int32) (σ1 τ1 : SS), f_X11_list x0 x1 x2 σ = some (r, σ1) ∧ f_X12_list x0 x1 x2 τ = some (r, τ1) ∧ I σ1 τ1
def Pstput (I : SS → SS → Prop) : Prop := ∀ x0 : Int32, ∀ x1 : Int32, ∀ x2 : Int64, ∀ σ τ : SS, I σ τ → ∃ (r : Int32) (σ1 τ1 : SS), f_X11_put x0 x1 x2 σ = some (r, σ1) ∧ f_X12_put x0 x1 x2 τ = some (r, τ1) ∧ I σ1 τ1
def Pstget (I : SS → SS → Prop) : Prop := ∀ x0 : Int32, ∀ x1 : Int32, ∀ σ τ : SS, I σ τ → ∃ (r : Int64) (σ1 τ1 : SS), f_X11_get x0 x1 σ = some (r, σ1) ∧ f_X12_get x0 x1 τ = some (r, τ1) ∧ I σ1 τ1
def Pstcopy (I : SS → SS → Prop) : Prop := ∀ x0 : Int32, ∀ x1 : Int32, ∀ x2 : Int32, ∀ x3 : Int32, ∀ x4 : Int32, ∀ σ τ : SS, I σ τ → ∃ (r : Int32) (σ1 τ1 : SS), f_X11_copy x0 x1 x2 x3 x4 σ = some (r, σ1) ∧ f_X12_copy x0 x1 x2 x3 x4 τ = some (r, τ1) ∧ I σ1 τ1
def Pstact (I : SS → SS → Prop) : Prop := ∀ x0 : Int32, ∀ x1 : Int32, ∀ x2 : Int32, ∀ σ τ : SS, I σ τ → ∃ (r : Int32) (σ1 τ1 : SS), f_X11_act x0 x1 x2 σ = some (r, σ1) ∧ f_X12_act x0 x1 x2 τ = some (r, τ1) ∧ I σ1 τ1
def Psttrace (I : SS → SS → Prop) : Prop := ∀ x0 : Int32, ∀ σ τ : SS, I σ τ → ∃ (r : Int32) (σ1 τ1 : SS), f_X11_trace x0 σ = some (r, σ1) ∧ f_X12_trace x0 τ = some (r, τ1) ∧ I σ1 τ1
def Psttaken (I : SS → SS → Prop) : Prop := ∀ x0 : Int32, ∀ x1 : Int32, ∀ σ τ : SS, I σ τ → ∃ (r : Int32) (σ1 τ1 : SS), f_X11_taken x0 x1 σ = some (r, σ1) ∧ f_X12_taken x0 x1 τ = some (r, τ1) ∧ I σ1 τ1
def Pstundo (I : SS → SS → Prop) : Prop := ∀ σ τ : SS, I σ τ → ∃ (r : Int32) (σ1 τ1 : SS), f_X11_undo  σ = some (r, σ1) ∧ f_X12_undo  τ = some (r, τ1) ∧ I σ1 τ1
def Pstredo (I : SS → SS → Prop) : Prop := ∀ σ τ : SS, I σ τ → ∃ (r : Int32) (σ1 τ1 : SS), f_X11_redo  σ = some (r, σ1) ∧ f_X12_redo  τ = some (r, τ1) ∧ I σ1 τ1
def Pstimage (I : SS → SS → Prop) : Prop := ∀ σ τ : SS, I σ τ → ∃ (r : Int32) (σ1 τ1 : SS), f_X11_image  σ = some (r, σ1) ∧ f_X12_image  τ = some (r, τ1) ∧ I σ1 τ1
def Pstalike (I : SS → SS → Prop) : Prop := ∀ σ τ : SS, I σ τ → ∃ (r : Int32) (σ1 τ1 : SS), f_X11_alike  σ = some (r, σ1) ∧ f_X12_alike  τ = some (r, τ1) ∧ I σ1 τ1
def Pstback (I : SS → SS → Prop) : Prop := ∀ σ τ : SS, I σ τ → ∃ (r : Int32) (σ1 τ1 : SS), f_X11_back  σ = some (r, σ1) ∧ f_X12_back  τ = some (r, τ1) ∧ I σ1 τ1
def Pstcount (I : SS → SS → Prop) : Prop := ∀ x0 : Int32, ∀ σ τ : SS, I σ τ → ∃ (r : Int32) (σ1 τ1 : SS), f_X11_count x0 σ = some (r, σ1) ∧ f_X12_count x0 τ = some (r, τ1) ∧ I σ1 τ1
/-- every call of both sides answers alike, and keeps I -/
def zSteps (I : SS → SS → Prop) : Prop := Pstproduct I ∧ Pstblow I ∧ Pstcurved I ∧ Pstcurve I ∧ Pstconics I ∧ Pstspace I ∧ Pstworth I ∧ Pstterm I ∧ Pstset I ∧ Psttell I ∧ Pstof I ∧ Pstnumber I ∧ Pstdrop I ∧ Pstcanonical I ∧ Pstmet I ∧ Pstmeets I ∧ PstmeetsAll I ∧ Pstself I ∧ Pstlike I ∧ Pstchern I ∧ PstcutOut I ∧ Pstthrough I ∧ Pstfits I ∧ Pstjudge I ∧ Pstlots I ∧ Pstfeed I ∧ Pstwipe I ∧ Pstread I ∧ Pstacts I ∧ Pstwrite I ∧ Pstpaper I ∧ Pstlist I ∧ Pstput I ∧ Pstget I ∧ Pstcopy I ∧ Pstact I ∧ Psttrace I ∧ Psttaken I ∧ Pstundo I ∧ Pstredo I ∧ Pstimage I ∧ Pstalike I ∧ Pstback I ∧ Pstcount I
theorem zSteps.stproduct {I : SS → SS → Prop} (h : zSteps I) : Pstproduct I := h.1
theorem zSteps.stblow {I : SS → SS → Prop} (h : zSteps I) : Pstblow I := h.2.1
theorem zSteps.stcurved {I : SS → SS → Prop} (h : zSteps I) : Pstcurved I := h.2.2.1
theorem zSteps.stcurve {I : SS → SS → Prop} (h : zSteps I) : Pstcurve I := h.2.2.2.1
theorem zSteps.stconics {I : SS → SS → Prop} (h : zSteps I) : Pstconics I := h.2.2.2.2.1
theorem zSteps.stspace {I : SS → SS → Prop} (h : zSteps I) : Pstspace I := h.2.2.2.2.2.1
theorem zSteps.stworth {I : SS → SS → Prop} (h : zSteps I) : Pstworth I := h.2.2.2.2.2.2.1
theorem zSteps.stterm {I : SS → SS → Prop} (h : zSteps I) : Pstterm I := h.2.2.2.2.2.2.2.1
theorem zSteps.stset {I : SS → SS → Prop} (h : zSteps I) : Pstset I := h.2.2.2.2.2.2.2.2.1
theorem zSteps.sttell {I : SS → SS → Prop} (h : zSteps I) : Psttell I := h.2.2.2.2.2.2.2.2.2.1
theorem zSteps.stof {I : SS → SS → Prop} (h : zSteps I) : Pstof I := h.2.2.2.2.2.2.2.2.2.2.1
theorem zSteps.stnumber {I : SS → SS → Prop} (h : zSteps I) : Pstnumber I := h.2.2.2.2.2.2.2.2.2.2.2.1
theorem zSteps.stdrop {I : SS → SS → Prop} (h : zSteps I) : Pstdrop I := h.2.2.2.2.2.2.2.2.2.2.2.2.1
theorem zSteps.stcanonical {I : SS → SS → Prop} (h : zSteps I) : Pstcanonical I := h.2.2.2.2.2.2.2.2.2.2.2.2.2.1
theorem zSteps.stmet {I : SS → SS → Prop} (h : zSteps I) : Pstmet I := h.2.2.2.2.2.2.2.2.2.2.2.2.2.2.1
theorem zSteps.stmeets {I : SS → SS → Prop} (h : zSteps I) : Pstmeets I := h.2.2.2.2.2.2.2.2.2.2.2.2.2.2.2.1
theorem zSteps.stmeetsAll {I : SS → SS → Prop} (h : zSteps I) : PstmeetsAll I := h.2.2.2.2.2.2.2.2.2.2.2.2.2.2.2.2.1
theorem zSteps.stself {I : SS → SS → Prop} (h : zSteps I) : Pstself I := h.2.2.2.2.2.2.2.2.2.2.2.2.2.2.2.2.2.1
theorem zSteps.stlike {I : SS → SS → Prop} (h : zSteps I) : Pstlike I := h.2.2.2.2.2.2.2.2.2.2.2.2.2.2.2.2.2.2.1
theorem zSteps.stchern {I : SS → SS → Prop} (h : zSteps I) : Pstchern I := h.2.2.2.2.2.2.2.2.2.2.2.2.2.2.2.2.2.2.2.1
theorem zSteps.stcutOut {I : SS → SS → Prop} (h : zSteps I) : PstcutOut I := h.2.2.2.2.2.2.2.2.2.2.2.2.2.2.2.2.2.2.2.2.1
theorem zSteps.stthrough {I : SS → SS → Prop} (h : zSteps I) : Pstthrough I := h.2.2.2.2.2.2.2.2.2.2.2.2.2.2.2.2.2.2.2.2.2.1
theorem zSteps.stfits {I : SS → SS → Prop} (h : zSteps I) : Pstfits I := h.2.2.2.2.2.2.2.2.2.2.2.2.2.2.2.2.2.2.2.2.2.2.1
theorem zSteps.stjudge {I : SS → SS → Prop} (h : zSteps I) : Pstjudge I := h.2.2.2.2.2.2.2.2.2.2.2.2.2.2.2.2.2.2.2.2.2.2.2.1
theorem zSteps.stlots {I : SS → SS → Prop} (h : zSteps I) : Pstlots I := h.2.2.2.2.2.2.2.2.2.2.2.2.2.2.2.2.2.2.2.2.2.2.2.2.1
theorem zSteps.stfeed {I : SS → SS → Prop} (h : zSteps I) : Pstfeed I := h.2.2.2.2.2.2.2.2.2.2.2.2.2.2.2.2.2.2.2.2.2.2.2.2.2.1
theorem zSteps.stwipe {I : SS → SS → Prop} (h : zSteps I) : Pstwipe I := h.2.2.2.2.2.2.2.2.2.2.2.2.2.2.2.2.2.2.2.2.2.2.2.2.2.2.1
theorem zSteps.stread {I : SS → SS → Prop} (h : zSteps I) : Pstread I := h.2.2.2.2.2.2.2.2.2.2.2.2.2.2.2.2.2.2.2.2.2.2.2.2.2.2.2.1
theorem zSteps.stacts {I : SS → SS → Prop} (h : zSteps I) : Pstacts I := h.2.2.2.2.2.2.2.2.2.2.2.2.2.2.2.2.2.2.2.2.2.2.2.2.2.2.2.2.1
theorem zSteps.stwrite {I : SS → SS → Prop} (h : zSteps I) : Pstwrite I := h.2.2.2.2.2.2.2.2.2.2.2.2.2.2.2.2.2.2.2.2.2.2.2.2.2.2.2.2.2.1
theorem zSteps.stpaper {I : SS → SS → Prop} (h : zSteps I) : Pstpaper I := h.2.2.2.2.2.2.2.2.2.2.2.2.2.2.2.2.2.2.2.2.2.2.2.2.2.2.2.2.2.2.1
theorem zSteps.stlist {I : SS → SS → Prop} (h : zSteps I) : Pstlist I := h.2.2.2.2.2.2.2.2.2.2.2.2.2.2.2.2.2.2.2.2.2.2.2.2.2.2.2.2.2.2.2.1
theorem zSteps.stput {I : SS → SS → Prop} (h : zSteps I) : Pstput I := h.2.2.2.2.2.2.2.2.2.2.2.2.2.2.2.2.2.2.2.2.2.2.2.2.2.2.2.2.2.2.2.2.1
theorem zSteps.stget {I : SS → SS → Prop} (h : zSteps I) : Pstget I := h.2.2.2.2.2.2.2.2.2.2.2.2.2.2.2.2.2.2.2.2.2.2.2.2.2.2.2.2.2.2.2.2.2.1
theorem zSteps.stcopy {I : SS → SS → Prop} (h : zSteps I) : Pstcopy I := h.2.2.2.2.2.2.2.2.2.2.2.2.2.2.2.2.2.2.2.2.2.2.2.2.2.2.2.2.2.2.2.2.2.2.1
theorem zSteps.stact {I : SS → SS → Prop} (h : zSteps I) : Pstact I := h.2.2.2.2.2.2.2.2.2.2.2.2.2.2.2.2.2.2.2.2.2.2.2.2.2.2.2.2.2.2.2.2.2.2.2.1
theorem zSteps.sttrace {I : SS → SS → Prop} (h : zSteps I) : Psttrace I := h.2.2.2.2.2.2.2.2.2.2.2.2.2.2.2.2.2.2.2.2.2.2.2.2.2.2.2.2.2.2.2.2.2.2.2.2.1
theorem zSteps.sttaken {I : SS → SS → Prop} (h : zSteps I) : Psttaken I := h.2.2.2.2.2.2.2.2.2.2.2.2.2.2.2.2.2.2.2.2.2.2.2.2.2.2.2.2.2.2.2.2.2.2.2.2.2.1
theorem zSteps.stundo {I : SS → SS → Prop} (h : zSteps I) : Pstundo I := h.2.2.2.2.2.2.2.2.2.2.2.2.2.2.2.2.2.2.2.2.2.2.2.2.2.2.2.2.2.2.2.2.2.2.2.2.2.2.1
theorem zSteps.stredo {I : SS → SS → Prop} (h : zSteps I) : Pstredo I := h.2.2.2.2.2.2.2.2.2.2.2.2.2.2.2.2.2.2.2.2.2.2.2.2.2.2.2.2.2.2.2.2.2.2.2.2.2.2.2.1
theorem zSteps.stimage {I : SS → SS → Prop} (h : zSteps I) : Pstimage I := h.2.2.2.2.2.2.2.2.2.2.2.2.2.2.2.2.2.2.2.2.2.2.2.2.2.2.2.2.2.2.2.2.2.2.2.2.2.2.2.2.1
theorem zSteps.stalike {I : SS → SS → Prop} (h : zSteps I) : Pstalike I := h.2.2.2.2.2.2.2.2.2.2.2.2.2.2.2.2.2.2.2.2.2.2.2.2.2.2.2.2.2.2.2.2.2.2.2.2.2.2.2.2.2.1
theorem zSteps.stback {I : SS → SS → Prop} (h : zSteps I) : Pstback I := h.2.2.2.2.2.2.2.2.2.2.2.2.2.2.2.2.2.2.2.2.2.2.2.2.2.2.2.2.2.2.2.2.2.2.2.2.2.2.2.2.2.2.1
theorem zSteps.stcount {I : SS → SS → Prop} (h : zSteps I) : Pstcount I := h.2.2.2.2.2.2.2.2.2.2.2.2.2.2.2.2.2.2.2.2.2.2.2.2.2.2.2.2.2.2.2.2.2.2.2.2.2.2.2.2.2.2.2
